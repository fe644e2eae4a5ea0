/-! the table's words, by their places -/
/-- the good words of the table -/
def gt : List Cond := lw_tbl.filter goodWord
theorem gt_of {w : Cond} (h : w ∈ lw_tbl) (hg : goodWord w = true) : w ∈ gt := List.mem_filter.mpr ⟨h, hg⟩
theorem ck_1 {i : Nat} {w : Cond} (h : tables_1_1[i]? = some w) : w ∈ lw_tbl := List.mem_append_right _ (List.mem_append_left _ (List.mem_of_getElem? h))
theorem ck_2 {i : Nat} {w : Cond} (h : tables_1_2[i]? = some w) : w ∈ lw_tbl := List.mem_append_right _ (List.mem_append_right _ (List.mem_append_left _ (List.mem_of_getElem? h)))
theorem ck_3 {i : Nat} {w : Cond} (h : tables_1_3[i]? = some w) : w ∈ lw_tbl := List.mem_append_right _ (List.mem_append_right _ (List.mem_append_right _ (List.mem_append_left _ (List.mem_of_getElem? h))))
theorem ck_4 {i : Nat} {w : Cond} (h : tables_1_4[i]? = some w) : w ∈ lw_tbl := List.mem_append_right _ (List.mem_append_right _ (List.mem_append_right _ (List.mem_append_right _ (List.mem_append_left _ (List.mem_of_getElem? h)))))
theorem ck_5 {i : Nat} {w : Cond} (h : tables_1_5[i]? = some w) : w ∈ lw_tbl := List.mem_append_right _ (List.mem_append_right _ (List.mem_append_right _ (List.mem_append_right _ (List.mem_append_right _ (List.mem_append_left _ (List.mem_of_getElem? h))))))
theorem ck_6 {i : Nat} {w : Cond} (h : tables_1_6[i]? = some w) : w ∈ lw_tbl := List.mem_append_right _ (List.mem_append_right _ (List.mem_append_right _ (List.mem_append_right _ (List.mem_append_right _ (List.mem_append_right _ (List.mem_of_getElem? h))))))
set_option maxRecDepth 20000 in
theorem wd_0 : (Jvm.Cond.initialized "RungHouseLaw" : Cond) ∈ gt := gt_of (ck_1 (i := 0) rfl) rfl
set_option maxRecDepth 20000 in
theorem wd_1 : (Jvm.Cond.initialized "RungHouse" : Cond) ∈ gt := gt_of (ck_1 (i := 1) rfl) rfl
set_option maxRecDepth 20000 in
theorem wd_2 : (Jvm.Cond.initialized "RungHouse$Reader" : Cond) ∈ gt := gt_of (ck_1 (i := 2) rfl) rfl
set_option maxRecDepth 20000 in
theorem wd_3 : (Jvm.Cond.initialized "RungHouse$House" : Cond) ∈ gt := gt_of (ck_1 (i := 3) rfl) rfl
set_option maxRecDepth 20000 in
theorem wd_4 : (Jvm.Cond.initialized "RungHouse$LongRun" : Cond) ∈ gt := gt_of (ck_1 (i := 4) rfl) rfl
set_option maxRecDepth 20000 in
theorem wd_5 : (Jvm.Cond.initialized "RungHouse$Memory" : Cond) ∈ gt := gt_of (ck_1 (i := 5) rfl) rfl
set_option maxRecDepth 20000 in
theorem wd_6 : (Jvm.Cond.initialized "RungHouse$Sort" : Cond) ∈ gt := gt_of (ck_1 (i := 6) rfl) rfl
set_option maxRecDepth 20000 in
theorem wd_7 : (Jvm.Cond.initialized "RungHouse$Plan" : Cond) ∈ gt := gt_of (ck_1 (i := 7) rfl) rfl
set_option maxRecDepth 20000 in
theorem wd_8 : (Jvm.Cond.initialized "RungHouse$Rule" : Cond) ∈ gt := gt_of (ck_1 (i := 8) rfl) rfl
set_option maxRecDepth 20000 in
theorem wd_9 : (Jvm.Cond.initialized "RungHouseModel" : Cond) ∈ gt := gt_of (ck_1 (i := 9) rfl) rfl
set_option maxRecDepth 20000 in
theorem wd_10 : (Jvm.Cond.initialized "java/lang/String" : Cond) ∈ gt := gt_of (ck_1 (i := 10) rfl) rfl
set_option maxRecDepth 20000 in
theorem wd_11 : (Jvm.Cond.initialized "java/lang/StringLatin1" : Cond) ∈ gt := gt_of (ck_1 (i := 11) rfl) rfl
set_option maxRecDepth 20000 in
theorem wd_12 : (Jvm.Cond.initialized "jdk/internal/util/Preconditions" : Cond) ∈ gt := gt_of (ck_1 (i := 12) rfl) rfl
set_option maxRecDepth 20000 in
theorem wd_13 : (Jvm.Cond.initialized "java/lang/StringUTF16" : Cond) ∈ gt := gt_of (ck_1 (i := 13) rfl) rfl
set_option maxRecDepth 20000 in
theorem wd_14 : (Jvm.Cond.initialized "java/lang/Math" : Cond) ∈ gt := gt_of (ck_1 (i := 14) rfl) rfl
set_option maxRecDepth 20000 in
theorem wd_15 : (Jvm.Cond.classLink "RungHouseLaw" 7 "RungHouse" : Cond) ∈ gt := gt_of (ck_1 (i := 15) rfl) rfl
set_option maxRecDepth 20000 in
theorem wd_16 : (Jvm.Cond.instantiable "RungHouse" 14 : Cond) ∈ gt := gt_of (ck_1 (i := 16) rfl) rfl
set_option maxRecDepth 20000 in
theorem wd_17 : (Jvm.Cond.methodLink "RungHouseLaw" 9 ⟨"RungHouse", "<init>", "()V"⟩ : Cond) ∈ gt := gt_of (ck_1 (i := 17) rfl) rfl
set_option maxRecDepth 20000 in
theorem wd_18 : (Jvm.Cond.instanceMethod ⟨"RungHouse", "<init>", "()V"⟩ : Cond) ∈ gt := gt_of (ck_1 (i := 18) rfl) rfl
set_option maxRecDepth 20000 in
theorem wd_19 : (Jvm.Cond.code ⟨"RungHouse", "<init>", "()V"⟩ prog_1_method_1_code 2 none : Cond) ∈ gt := gt_of (ck_1 (i := 19) rfl) rfl
set_option maxRecDepth 20000 in
theorem wd_20 : (Jvm.Cond.methodLink "RungHouse" 1 ⟨"java/lang/Object", "<init>", "()V"⟩ : Cond) ∈ gt := gt_of (ck_1 (i := 20) rfl) rfl
set_option maxRecDepth 20000 in
theorem wd_21 : (Jvm.Cond.instanceMethod ⟨"java/lang/Object", "<init>", "()V"⟩ : Cond) ∈ gt := gt_of (ck_1 (i := 21) rfl) rfl
set_option maxRecDepth 20000 in
theorem wd_22 : (Jvm.Cond.code ⟨"java/lang/Object", "<init>", "()V"⟩ object_method_1_code 1 none : Cond) ∈ gt := gt_of (ck_1 (i := 22) rfl) rfl
set_option maxRecDepth 20000 in
theorem wd_23 : (Jvm.Cond.classLink "RungHouse" 7 "RungHouse$Reader" : Cond) ∈ gt := gt_of (ck_1 (i := 23) rfl) rfl
set_option maxRecDepth 20000 in
theorem wd_24 : (Jvm.Cond.instantiable "RungHouse$Reader" 9 : Cond) ∈ gt := gt_of (ck_1 (i := 24) rfl) rfl
set_option maxRecDepth 20000 in
theorem wd_25 : (Jvm.Cond.methodLinkNest "RungHouse" 9 ⟨"RungHouse$Reader", "<init>", "()V"⟩ "RungHouse" : Cond) ∈ lw_tbl := ck_1 (i := 25) rfl
set_option maxRecDepth 20000 in
theorem wd_26 : (Jvm.Cond.instanceMethod ⟨"RungHouse$Reader", "<init>", "()V"⟩ : Cond) ∈ gt := gt_of (ck_1 (i := 26) rfl) rfl
set_option maxRecDepth 20000 in
theorem wd_27 : (Jvm.Cond.code ⟨"RungHouse$Reader", "<init>", "()V"⟩ prog_6_method_1_code 1 none : Cond) ∈ gt := gt_of (ck_1 (i := 27) rfl) rfl
set_option maxRecDepth 20000 in
theorem wd_28 : (Jvm.Cond.methodLink "RungHouse$Reader" 3 ⟨"java/lang/Object", "<init>", "()V"⟩ : Cond) ∈ gt := gt_of (ck_1 (i := 28) rfl) rfl
set_option maxRecDepth 20000 in
theorem wd_29 : (Jvm.Cond.fieldLink "RungHouse$Reader" 9 "RungHouse$Reader" "bytes" "[I" : Cond) ∈ gt := gt_of (ck_1 (i := 29) rfl) rfl
set_option maxRecDepth 20000 in
theorem wd_30 : (Jvm.Cond.fieldLink "RungHouse$Reader" 15 "RungHouse$Reader" "length" "I" : Cond) ∈ gt := gt_of (ck_1 (i := 30) rfl) rfl
set_option maxRecDepth 20000 in
theorem wd_31 : (Jvm.Cond.fieldLink "RungHouse" 91 "RungHouse$Reader" "length" "I" : Cond) ∈ gt := gt_of (ck_1 (i := 31) rfl) rfl
set_option maxRecDepth 20000 in
theorem wd_32 : (Jvm.Cond.fieldLink "RungHouse$Sort" 69 "RungHouse$Reader" "length" "I" : Cond) ∈ gt := gt_of (ck_1 (i := 32) rfl) rfl
set_option maxRecDepth 20000 in
theorem wd_33 : (Jvm.Cond.fieldLink "RungHouse$House" 70 "RungHouse$Reader" "length" "I" : Cond) ∈ gt := gt_of (ck_1 (i := 33) rfl) rfl
set_option maxRecDepth 20000 in
theorem wd_34 : (Jvm.Cond.fieldLink "RungHouse$Reader" 19 "RungHouse$Reader" "fault" "I" : Cond) ∈ gt := gt_of (ck_1 (i := 34) rfl) rfl
set_option maxRecDepth 20000 in
theorem wd_35 : (Jvm.Cond.fieldLink "RungHouse" 319 "RungHouse$Reader" "fault" "I" : Cond) ∈ gt := gt_of (ck_1 (i := 35) rfl) rfl
set_option maxRecDepth 20000 in
theorem wd_36 : (Jvm.Cond.fieldLink "RungHouse$Reader" 22 "RungHouse$Reader" "faultAt" "I" : Cond) ∈ gt := gt_of (ck_1 (i := 36) rfl) rfl
set_option maxRecDepth 20000 in
theorem wd_37 : (Jvm.Cond.fieldLink "RungHouse" 316 "RungHouse$Reader" "faultAt" "I" : Cond) ∈ gt := gt_of (ck_1 (i := 37) rfl) rfl
set_option maxRecDepth 20000 in
theorem wd_38 : (Jvm.Cond.fieldLink "RungHouse$Reader" 25 "RungHouse$Reader" "kind" "I" : Cond) ∈ gt := gt_of (ck_1 (i := 38) rfl) rfl
set_option maxRecDepth 20000 in
theorem wd_39 : (Jvm.Cond.fieldLink "RungHouse$Reader" 28 "RungHouse$Reader" "start" "I" : Cond) ∈ gt := gt_of (ck_1 (i := 39) rfl) rfl
set_option maxRecDepth 20000 in
theorem wd_40 : (Jvm.Cond.fieldLink "RungHouse$Rule" 46 "RungHouse$Reader" "start" "I" : Cond) ∈ gt := gt_of (ck_1 (i := 40) rfl) rfl
set_option maxRecDepth 20000 in
theorem wd_41 : (Jvm.Cond.fieldLink "RungHouse$Sort" 62 "RungHouse$Reader" "start" "I" : Cond) ∈ gt := gt_of (ck_1 (i := 41) rfl) rfl
set_option maxRecDepth 20000 in
theorem wd_42 : (Jvm.Cond.fieldLink "RungHouse$House" 77 "RungHouse$Reader" "start" "I" : Cond) ∈ gt := gt_of (ck_1 (i := 42) rfl) rfl
set_option maxRecDepth 20000 in
theorem wd_43 : (Jvm.Cond.fieldLink "RungHouse$Reader" 31 "RungHouse$Reader" "end" "I" : Cond) ∈ gt := gt_of (ck_1 (i := 43) rfl) rfl
set_option maxRecDepth 20000 in
theorem wd_44 : (Jvm.Cond.fieldLink "RungHouse$Reader" 34 "RungHouse$Reader" "figures" "I" : Cond) ∈ gt := gt_of (ck_1 (i := 44) rfl) rfl
set_option maxRecDepth 20000 in
theorem wd_45 : (Jvm.Cond.fieldLink "RungHouse$Reader" 37 "RungHouse$Reader" "value" "I" : Cond) ∈ gt := gt_of (ck_1 (i := 45) rfl) rfl
set_option maxRecDepth 20000 in
theorem wd_46 : (Jvm.Cond.laysFinal "RungHouse$Reader" "RungHouse$Reader" "bytes" "[I" : Cond) ∈ gt := gt_of (ck_1 (i := 46) rfl) rfl
set_option maxRecDepth 20000 in
theorem wd_48 : (Jvm.Cond.lays "RungHouse$Reader" "RungHouse$Reader" "length" "I" : Cond) ∈ gt := gt_of (ck_1 (i := 48) rfl) rfl
set_option maxRecDepth 20000 in
theorem wd_50 : (Jvm.Cond.lays "RungHouse$Reader" "RungHouse$Reader" "fault" "I" : Cond) ∈ gt := gt_of (ck_1 (i := 50) rfl) rfl
set_option maxRecDepth 20000 in
theorem wd_52 : (Jvm.Cond.lays "RungHouse$Reader" "RungHouse$Reader" "faultAt" "I" : Cond) ∈ gt := gt_of (ck_1 (i := 52) rfl) rfl
set_option maxRecDepth 20000 in
theorem wd_54 : (Jvm.Cond.lays "RungHouse$Reader" "RungHouse$Reader" "kind" "I" : Cond) ∈ gt := gt_of (ck_1 (i := 54) rfl) rfl
set_option maxRecDepth 20000 in
theorem wd_56 : (Jvm.Cond.lays "RungHouse$Reader" "RungHouse$Reader" "start" "I" : Cond) ∈ gt := gt_of (ck_1 (i := 56) rfl) rfl
set_option maxRecDepth 20000 in
theorem wd_58 : (Jvm.Cond.lays "RungHouse$Reader" "RungHouse$Reader" "end" "I" : Cond) ∈ gt := gt_of (ck_1 (i := 58) rfl) rfl
set_option maxRecDepth 20000 in
theorem wd_60 : (Jvm.Cond.lays "RungHouse$Reader" "RungHouse$Reader" "figures" "I" : Cond) ∈ gt := gt_of (ck_1 (i := 60) rfl) rfl
set_option maxRecDepth 20000 in
theorem wd_62 : (Jvm.Cond.lays "RungHouse$Reader" "RungHouse$Reader" "value" "I" : Cond) ∈ gt := gt_of (ck_1 (i := 62) rfl) rfl
set_option maxRecDepth 20000 in
theorem wd_65 : (Jvm.Cond.arrayClass FieldType.int : Cond) ∈ gt := gt_of (ck_1 (i := 65) rfl) rfl
set_option maxRecDepth 20000 in
theorem wd_66 : (Jvm.Cond.classLink "RungHouse" 16 "RungHouse$House" : Cond) ∈ gt := gt_of (ck_1 (i := 66) rfl) rfl
set_option maxRecDepth 20000 in
theorem wd_67 : (Jvm.Cond.arrayOver (FieldType.object "RungHouse$House") : Cond) ∈ lw_tbl := ck_1 (i := 67) rfl
set_option maxRecDepth 20000 in
theorem wd_68 : (Jvm.Cond.classLink "RungHouse" 22 "RungHouse$Sort" : Cond) ∈ gt := gt_of (ck_1 (i := 68) rfl) rfl
set_option maxRecDepth 20000 in
theorem wd_69 : (Jvm.Cond.arrayOver (FieldType.object "RungHouse$Sort") : Cond) ∈ lw_tbl := ck_1 (i := 69) rfl
set_option maxRecDepth 20000 in
theorem wd_70 : (Jvm.Cond.classLink "RungHouse" 28 "RungHouse$Rule" : Cond) ∈ gt := gt_of (ck_1 (i := 70) rfl) rfl
set_option maxRecDepth 20000 in
theorem wd_71 : (Jvm.Cond.arrayOver (FieldType.object "RungHouse$Rule") : Cond) ∈ lw_tbl := ck_1 (i := 71) rfl
set_option maxRecDepth 20000 in
theorem wd_72 : (Jvm.Cond.classLink "RungHouse" 34 "RungHouse$Plan" : Cond) ∈ gt := gt_of (ck_1 (i := 72) rfl) rfl
set_option maxRecDepth 20000 in
theorem wd_73 : (Jvm.Cond.arrayOver (FieldType.object "RungHouse$Plan") : Cond) ∈ lw_tbl := ck_1 (i := 73) rfl
set_option maxRecDepth 20000 in
theorem wd_74 : (Jvm.Cond.instantiable "RungHouse$House" 7 : Cond) ∈ gt := gt_of (ck_1 (i := 74) rfl) rfl
set_option maxRecDepth 20000 in
theorem wd_75 : (Jvm.Cond.methodLinkNest "RungHouse" 40 ⟨"RungHouse$House", "<init>", "()V"⟩ "RungHouse" : Cond) ∈ lw_tbl := ck_1 (i := 75) rfl
set_option maxRecDepth 20000 in
theorem wd_76 : (Jvm.Cond.instanceMethod ⟨"RungHouse$House", "<init>", "()V"⟩ : Cond) ∈ gt := gt_of (ck_1 (i := 76) rfl) rfl
set_option maxRecDepth 20000 in
theorem wd_77 : (Jvm.Cond.code ⟨"RungHouse$House", "<init>", "()V"⟩ prog_2_method_1_code 1 none : Cond) ∈ gt := gt_of (ck_1 (i := 77) rfl) rfl
set_option maxRecDepth 20000 in
theorem wd_78 : (Jvm.Cond.methodLink "RungHouse$House" 3 ⟨"java/lang/Object", "<init>", "()V"⟩ : Cond) ∈ gt := gt_of (ck_1 (i := 78) rfl) rfl
set_option maxRecDepth 20000 in
theorem wd_79 : (Jvm.Cond.fieldLink "RungHouse$House" 9 "RungHouse$House" "prices" "[I" : Cond) ∈ gt := gt_of (ck_1 (i := 79) rfl) rfl
set_option maxRecDepth 20000 in
theorem wd_80 : (Jvm.Cond.fieldLink "RungHouse$LongRun" 67 "RungHouse$House" "prices" "[I" : Cond) ∈ gt := gt_of (ck_1 (i := 80) rfl) rfl
set_option maxRecDepth 20000 in
theorem wd_81 : (Jvm.Cond.fieldLink "RungHouse" 144 "RungHouse$House" "prices" "[I" : Cond) ∈ gt := gt_of (ck_1 (i := 81) rfl) rfl
set_option maxRecDepth 20000 in
theorem wd_82 : (Jvm.Cond.fieldLink "RungHouse$Plan" 104 "RungHouse$House" "prices" "[I" : Cond) ∈ gt := gt_of (ck_1 (i := 82) rfl) rfl
set_option maxRecDepth 20000 in
theorem wd_83 : (Jvm.Cond.fieldLink "RungHouse$House" 15 "RungHouse$House" "rungs" "I" : Cond) ∈ gt := gt_of (ck_1 (i := 83) rfl) rfl
set_option maxRecDepth 20000 in
theorem wd_84 : (Jvm.Cond.fieldLink "RungHouse$LongRun" 33 "RungHouse$House" "rungs" "I" : Cond) ∈ gt := gt_of (ck_1 (i := 84) rfl) rfl
set_option maxRecDepth 20000 in
theorem wd_85 : (Jvm.Cond.fieldLink "RungHouse" 104 "RungHouse$House" "rungs" "I" : Cond) ∈ gt := gt_of (ck_1 (i := 85) rfl) rfl
set_option maxRecDepth 20000 in
theorem wd_86 : (Jvm.Cond.fieldLink "RungHouse$Plan" 55 "RungHouse$House" "rungs" "I" : Cond) ∈ gt := gt_of (ck_1 (i := 86) rfl) rfl
set_option maxRecDepth 20000 in
theorem wd_87 : (Jvm.Cond.fieldLink "RungHouse$House" 19 "RungHouse$House" "kept" "I" : Cond) ∈ gt := gt_of (ck_1 (i := 87) rfl) rfl
set_option maxRecDepth 20000 in
theorem wd_88 : (Jvm.Cond.fieldLink "RungHouse" 137 "RungHouse$House" "kept" "I" : Cond) ∈ gt := gt_of (ck_1 (i := 88) rfl) rfl
set_option maxRecDepth 20000 in
theorem wd_89 : (Jvm.Cond.fieldLink "RungHouse$House" 22 "RungHouse$House" "up" "I" : Cond) ∈ gt := gt_of (ck_1 (i := 89) rfl) rfl
set_option maxRecDepth 20000 in
theorem wd_90 : (Jvm.Cond.fieldLink "RungHouse" 125 "RungHouse$House" "up" "I" : Cond) ∈ gt := gt_of (ck_1 (i := 90) rfl) rfl
set_option maxRecDepth 20000 in
theorem wd_91 : (Jvm.Cond.fieldLink "RungHouse$House" 25 "RungHouse$House" "down" "I" : Cond) ∈ gt := gt_of (ck_1 (i := 91) rfl) rfl
set_option maxRecDepth 20000 in
theorem wd_92 : (Jvm.Cond.fieldLink "RungHouse" 128 "RungHouse$House" "down" "I" : Cond) ∈ gt := gt_of (ck_1 (i := 92) rfl) rfl
set_option maxRecDepth 20000 in
theorem wd_93 : (Jvm.Cond.fieldLink "RungHouse$House" 28 "RungHouse$House" "first" "I" : Cond) ∈ gt := gt_of (ck_1 (i := 93) rfl) rfl
set_option maxRecDepth 20000 in
theorem wd_94 : (Jvm.Cond.fieldLink "RungHouse" 131 "RungHouse$House" "first" "I" : Cond) ∈ gt := gt_of (ck_1 (i := 94) rfl) rfl
set_option maxRecDepth 20000 in
theorem wd_95 : (Jvm.Cond.fieldLink "RungHouse$House" 31 "RungHouse$House" "enter" "I" : Cond) ∈ gt := gt_of (ck_1 (i := 95) rfl) rfl
set_option maxRecDepth 20000 in
theorem wd_96 : (Jvm.Cond.fieldLink "RungHouse$LongRun" 60 "RungHouse$House" "enter" "I" : Cond) ∈ gt := gt_of (ck_1 (i := 96) rfl) rfl
set_option maxRecDepth 20000 in
theorem wd_97 : (Jvm.Cond.fieldLink "RungHouse" 134 "RungHouse$House" "enter" "I" : Cond) ∈ gt := gt_of (ck_1 (i := 97) rfl) rfl
set_option maxRecDepth 20000 in
theorem wd_98 : (Jvm.Cond.laysFinal "RungHouse$House" "RungHouse$House" "prices" "[I" : Cond) ∈ gt := gt_of (ck_1 (i := 98) rfl) rfl
set_option maxRecDepth 20000 in
theorem wd_100 : (Jvm.Cond.lays "RungHouse$House" "RungHouse$House" "rungs" "I" : Cond) ∈ gt := gt_of (ck_1 (i := 100) rfl) rfl
set_option maxRecDepth 20000 in
theorem wd_102 : (Jvm.Cond.lays "RungHouse$House" "RungHouse$House" "kept" "I" : Cond) ∈ gt := gt_of (ck_1 (i := 102) rfl) rfl
set_option maxRecDepth 20000 in
theorem wd_104 : (Jvm.Cond.lays "RungHouse$House" "RungHouse$House" "up" "I" : Cond) ∈ gt := gt_of (ck_1 (i := 104) rfl) rfl
set_option maxRecDepth 20000 in
theorem wd_106 : (Jvm.Cond.lays "RungHouse$House" "RungHouse$House" "down" "I" : Cond) ∈ gt := gt_of (ck_1 (i := 106) rfl) rfl
set_option maxRecDepth 20000 in
theorem wd_108 : (Jvm.Cond.lays "RungHouse$House" "RungHouse$House" "first" "I" : Cond) ∈ gt := gt_of (ck_1 (i := 108) rfl) rfl
set_option maxRecDepth 20000 in
theorem wd_110 : (Jvm.Cond.lays "RungHouse$House" "RungHouse$House" "enter" "I" : Cond) ∈ gt := gt_of (ck_1 (i := 110) rfl) rfl
set_option maxRecDepth 20000 in
theorem wd_113 : (Jvm.Cond.classLink "RungHouse" 45 "RungHouse$LongRun" : Cond) ∈ gt := gt_of (ck_1 (i := 113) rfl) rfl
set_option maxRecDepth 20000 in
theorem wd_114 : (Jvm.Cond.instantiable "RungHouse$LongRun" 5 : Cond) ∈ gt := gt_of (ck_1 (i := 114) rfl) rfl
set_option maxRecDepth 20000 in
theorem wd_115 : (Jvm.Cond.methodLinkNest "RungHouse" 47 ⟨"RungHouse$LongRun", "<init>", "()V"⟩ "RungHouse" : Cond) ∈ lw_tbl := ck_1 (i := 115) rfl
set_option maxRecDepth 20000 in
theorem wd_116 : (Jvm.Cond.instanceMethod ⟨"RungHouse$LongRun", "<init>", "()V"⟩ : Cond) ∈ gt := gt_of (ck_1 (i := 116) rfl) rfl
set_option maxRecDepth 20000 in
theorem wd_117 : (Jvm.Cond.code ⟨"RungHouse$LongRun", "<init>", "()V"⟩ prog_3_method_1_code 1 none : Cond) ∈ gt := gt_of (ck_1 (i := 117) rfl) rfl
set_option maxRecDepth 20000 in
theorem wd_118 : (Jvm.Cond.methodLink "RungHouse$LongRun" 3 ⟨"java/lang/Object", "<init>", "()V"⟩ : Cond) ∈ gt := gt_of (ck_1 (i := 118) rfl) rfl
set_option maxRecDepth 20000 in
theorem wd_119 : (Jvm.Cond.fieldLink "RungHouse$LongRun" 9 "RungHouse$LongRun" "people" "[I" : Cond) ∈ gt := gt_of (ck_1 (i := 119) rfl) rfl
set_option maxRecDepth 20000 in
theorem wd_120 : (Jvm.Cond.fieldLink "RungHouse" 248 "RungHouse$LongRun" "people" "[I" : Cond) ∈ gt := gt_of (ck_1 (i := 120) rfl) rfl
set_option maxRecDepth 20000 in
theorem wd_121 : (Jvm.Cond.fieldLink "RungHouse$LongRun" 15 "RungHouse$LongRun" "coming" "[I" : Cond) ∈ gt := gt_of (ck_1 (i := 121) rfl) rfl
set_option maxRecDepth 20000 in
theorem wd_122 : (Jvm.Cond.fieldLink "RungHouse$LongRun" 18 "RungHouse$LongRun" "oddsByRung" "[I" : Cond) ∈ gt := gt_of (ck_1 (i := 122) rfl) rfl
set_option maxRecDepth 20000 in
theorem wd_123 : (Jvm.Cond.fieldLink "RungHouse$LongRun" 21 "RungHouse$LongRun" "houseBearsByRung" "[I" : Cond) ∈ gt := gt_of (ck_1 (i := 123) rfl) rfl
set_option maxRecDepth 20000 in
theorem wd_124 : (Jvm.Cond.fieldLink "RungHouse$LongRun" 24 "RungHouse$LongRun" "askers" "[I" : Cond) ∈ gt := gt_of (ck_1 (i := 124) rfl) rfl
set_option maxRecDepth 20000 in
theorem wd_125 : (Jvm.Cond.laysFinal "RungHouse$LongRun" "RungHouse$LongRun" "people" "[I" : Cond) ∈ gt := gt_of (ck_1 (i := 125) rfl) rfl
set_option maxRecDepth 20000 in
theorem wd_127 : (Jvm.Cond.laysFinal "RungHouse$LongRun" "RungHouse$LongRun" "coming" "[I" : Cond) ∈ gt := gt_of (ck_1 (i := 127) rfl) rfl
set_option maxRecDepth 20000 in
theorem wd_129 : (Jvm.Cond.laysFinal "RungHouse$LongRun" "RungHouse$LongRun" "oddsByRung" "[I" : Cond) ∈ gt := gt_of (ck_1 (i := 129) rfl) rfl
set_option maxRecDepth 20000 in
theorem wd_131 : (Jvm.Cond.laysFinal "RungHouse$LongRun" "RungHouse$LongRun" "houseBearsByRung" "[I" : Cond) ∈ gt := gt_of (ck_1 (i := 131) rfl) rfl
set_option maxRecDepth 20000 in
theorem wd_133 : (Jvm.Cond.laysFinal "RungHouse$LongRun" "RungHouse$LongRun" "askers" "[I" : Cond) ∈ gt := gt_of (ck_1 (i := 133) rfl) rfl
set_option maxRecDepth 20000 in
theorem wd_136 : (Jvm.Cond.classLink "RungHouse" 56 "RungHouse$Memory" : Cond) ∈ gt := gt_of (ck_1 (i := 136) rfl) rfl
set_option maxRecDepth 20000 in
theorem wd_137 : (Jvm.Cond.instantiable "RungHouse$Memory" 9 : Cond) ∈ gt := gt_of (ck_1 (i := 137) rfl) rfl
set_option maxRecDepth 20000 in
theorem wd_138 : (Jvm.Cond.methodLinkNest "RungHouse" 58 ⟨"RungHouse$Memory", "<init>", "()V"⟩ "RungHouse" : Cond) ∈ lw_tbl := ck_1 (i := 138) rfl
set_option maxRecDepth 20000 in
theorem wd_139 : (Jvm.Cond.instanceMethod ⟨"RungHouse$Memory", "<init>", "()V"⟩ : Cond) ∈ gt := gt_of (ck_1 (i := 139) rfl) rfl
set_option maxRecDepth 20000 in
theorem wd_140 : (Jvm.Cond.code ⟨"RungHouse$Memory", "<init>", "()V"⟩ prog_4_method_1_code 1 none : Cond) ∈ gt := gt_of (ck_1 (i := 140) rfl) rfl
set_option maxRecDepth 20000 in
theorem wd_141 : (Jvm.Cond.methodLink "RungHouse$Memory" 3 ⟨"java/lang/Object", "<init>", "()V"⟩ : Cond) ∈ gt := gt_of (ck_1 (i := 141) rfl) rfl
set_option maxRecDepth 20000 in
theorem wd_142 : (Jvm.Cond.fieldLink "RungHouse$Memory" 9 "RungHouse$Memory" "months" "[I" : Cond) ∈ gt := gt_of (ck_1 (i := 142) rfl) rfl
set_option maxRecDepth 20000 in
theorem wd_143 : (Jvm.Cond.fieldLink "RungHouse" 219 "RungHouse$Memory" "months" "[I" : Cond) ∈ gt := gt_of (ck_1 (i := 143) rfl) rfl
set_option maxRecDepth 20000 in
theorem wd_144 : (Jvm.Cond.fieldLink "RungHouse$Memory" 15 "RungHouse$Memory" "sums" "[I" : Cond) ∈ gt := gt_of (ck_1 (i := 144) rfl) rfl
set_option maxRecDepth 20000 in
theorem wd_145 : (Jvm.Cond.fieldLink "RungHouse" 222 "RungHouse$Memory" "sums" "[I" : Cond) ∈ gt := gt_of (ck_1 (i := 145) rfl) rfl
set_option maxRecDepth 20000 in
theorem wd_146 : (Jvm.Cond.fieldLink "RungHouse$Memory" 18 "RungHouse$Memory" "asked" "[Z" : Cond) ∈ gt := gt_of (ck_1 (i := 146) rfl) rfl
set_option maxRecDepth 20000 in
theorem wd_147 : (Jvm.Cond.fieldLink "RungHouse" 226 "RungHouse$Memory" "asked" "[Z" : Cond) ∈ gt := gt_of (ck_1 (i := 147) rfl) rfl
set_option maxRecDepth 20000 in
theorem wd_148 : (Jvm.Cond.fieldLink "RungHouse$Memory" 22 "RungHouse$Memory" "lifeSize" "I" : Cond) ∈ gt := gt_of (ck_1 (i := 148) rfl) rfl
set_option maxRecDepth 20000 in
theorem wd_149 : (Jvm.Cond.fieldLink "RungHouse" 216 "RungHouse$Memory" "lifeSize" "I" : Cond) ∈ gt := gt_of (ck_1 (i := 149) rfl) rfl
set_option maxRecDepth 20000 in
theorem wd_150 : (Jvm.Cond.fieldLink "RungHouse$Memory" 26 "RungHouse$Memory" "rungs" "[I" : Cond) ∈ gt := gt_of (ck_1 (i := 150) rfl) rfl
set_option maxRecDepth 20000 in
theorem wd_151 : (Jvm.Cond.fieldLink "RungHouse" 324 "RungHouse$Memory" "rungs" "[I" : Cond) ∈ gt := gt_of (ck_1 (i := 151) rfl) rfl
set_option maxRecDepth 20000 in
theorem wd_152 : (Jvm.Cond.fieldLink "RungHouse$Memory" 29 "RungHouse$Memory" "askings" "[I" : Cond) ∈ gt := gt_of (ck_1 (i := 152) rfl) rfl
set_option maxRecDepth 20000 in
theorem wd_153 : (Jvm.Cond.fieldLink "RungHouse" 326 "RungHouse$Memory" "askings" "[I" : Cond) ∈ gt := gt_of (ck_1 (i := 153) rfl) rfl
set_option maxRecDepth 20000 in
theorem wd_154 : (Jvm.Cond.fieldLink "RungHouse$Memory" 32 "RungHouse$Memory" "yearsSize" "I" : Cond) ∈ gt := gt_of (ck_1 (i := 154) rfl) rfl
set_option maxRecDepth 20000 in
theorem wd_155 : (Jvm.Cond.fieldLink "RungHouse" 266 "RungHouse$Memory" "yearsSize" "I" : Cond) ∈ gt := gt_of (ck_1 (i := 155) rfl) rfl
set_option maxRecDepth 20000 in
theorem wd_156 : (Jvm.Cond.fieldLink "RungHouse$Memory" 35 "RungHouse$Memory" "drawSeed" "I" : Cond) ∈ gt := gt_of (ck_1 (i := 156) rfl) rfl
set_option maxRecDepth 20000 in
theorem wd_157 : (Jvm.Cond.fieldLink "RungHouse" 299 "RungHouse$Memory" "drawSeed" "I" : Cond) ∈ gt := gt_of (ck_1 (i := 157) rfl) rfl
set_option maxRecDepth 20000 in
theorem wd_158 : (Jvm.Cond.fieldLink "RungHouse$Memory" 38 "RungHouse$Memory" "isKept" "Z" : Cond) ∈ gt := gt_of (ck_1 (i := 158) rfl) rfl
set_option maxRecDepth 20000 in
theorem wd_159 : (Jvm.Cond.fieldLink "RungHouse" 314 "RungHouse$Memory" "isKept" "Z" : Cond) ∈ gt := gt_of (ck_1 (i := 159) rfl) rfl
set_option maxRecDepth 20000 in
theorem wd_160 : (Jvm.Cond.laysFinal "RungHouse$Memory" "RungHouse$Memory" "months" "[I" : Cond) ∈ gt := gt_of (ck_1 (i := 160) rfl) rfl
set_option maxRecDepth 20000 in
theorem wd_162 : (Jvm.Cond.laysFinal "RungHouse$Memory" "RungHouse$Memory" "sums" "[I" : Cond) ∈ gt := gt_of (ck_1 (i := 162) rfl) rfl
set_option maxRecDepth 20000 in
theorem wd_164 : (Jvm.Cond.laysFinal "RungHouse$Memory" "RungHouse$Memory" "asked" "[Z" : Cond) ∈ gt := gt_of (ck_1 (i := 164) rfl) rfl
set_option maxRecDepth 20000 in
theorem wd_166 : (Jvm.Cond.lays "RungHouse$Memory" "RungHouse$Memory" "lifeSize" "I" : Cond) ∈ gt := gt_of (ck_1 (i := 166) rfl) rfl
set_option maxRecDepth 20000 in
theorem wd_168 : (Jvm.Cond.laysFinal "RungHouse$Memory" "RungHouse$Memory" "rungs" "[I" : Cond) ∈ gt := gt_of (ck_1 (i := 168) rfl) rfl
set_option maxRecDepth 20000 in
theorem wd_170 : (Jvm.Cond.laysFinal "RungHouse$Memory" "RungHouse$Memory" "askings" "[I" : Cond) ∈ gt := gt_of (ck_1 (i := 170) rfl) rfl
set_option maxRecDepth 20000 in
theorem wd_172 : (Jvm.Cond.lays "RungHouse$Memory" "RungHouse$Memory" "yearsSize" "I" : Cond) ∈ gt := gt_of (ck_1 (i := 172) rfl) rfl
set_option maxRecDepth 20000 in
theorem wd_174 : (Jvm.Cond.lays "RungHouse$Memory" "RungHouse$Memory" "drawSeed" "I" : Cond) ∈ gt := gt_of (ck_1 (i := 174) rfl) rfl
set_option maxRecDepth 20000 in
theorem wd_176 : (Jvm.Cond.lays "RungHouse$Memory" "RungHouse$Memory" "isKept" "Z" : Cond) ∈ gt := gt_of (ck_1 (i := 176) rfl) rfl
set_option maxRecDepth 20000 in
theorem wd_179 : (Jvm.Cond.arrayClass FieldType.long : Cond) ∈ gt := gt_of (ck_1 (i := 179) rfl) rfl
set_option maxRecDepth 20000 in
theorem wd_180 : (Jvm.Cond.arrayClass FieldType.boolean : Cond) ∈ gt := gt_of (ck_1 (i := 180) rfl) rfl
set_option maxRecDepth 20000 in
theorem wd_181 : (Jvm.Cond.arrayOver (FieldType.object "RungHouse$Memory") : Cond) ∈ lw_tbl := ck_1 (i := 181) rfl
set_option maxRecDepth 20000 in
theorem wd_182 : (Jvm.Cond.instantiable "RungHouse$Sort" 8 : Cond) ∈ gt := gt_of (ck_1 (i := 182) rfl) rfl
set_option maxRecDepth 20000 in
theorem wd_183 : (Jvm.Cond.methodLinkNest "RungHouse" 77 ⟨"RungHouse$Sort", "<init>", "()V"⟩ "RungHouse" : Cond) ∈ lw_tbl := ck_1 (i := 183) rfl
set_option maxRecDepth 20000 in
theorem wd_184 : (Jvm.Cond.instanceMethod ⟨"RungHouse$Sort", "<init>", "()V"⟩ : Cond) ∈ gt := gt_of (ck_1 (i := 184) rfl) rfl
set_option maxRecDepth 20000 in
theorem wd_185 : (Jvm.Cond.code ⟨"RungHouse$Sort", "<init>", "()V"⟩ prog_8_method_1_code 1 none : Cond) ∈ gt := gt_of (ck_1 (i := 185) rfl) rfl
set_option maxRecDepth 20000 in
theorem wd_186 : (Jvm.Cond.methodLink "RungHouse$Sort" 3 ⟨"java/lang/Object", "<init>", "()V"⟩ : Cond) ∈ gt := gt_of (ck_1 (i := 186) rfl) rfl
set_option maxRecDepth 20000 in
theorem wd_187 : (Jvm.Cond.fieldLink "RungHouse$Sort" 9 "RungHouse$Sort" "sums" "[I" : Cond) ∈ gt := gt_of (ck_1 (i := 187) rfl) rfl
set_option maxRecDepth 20000 in
theorem wd_188 : (Jvm.Cond.fieldLink "RungHouse$Plan" 91 "RungHouse$Sort" "sums" "[I" : Cond) ∈ gt := gt_of (ck_1 (i := 188) rfl) rfl
set_option maxRecDepth 20000 in
theorem wd_189 : (Jvm.Cond.fieldLink "RungHouse" 171 "RungHouse$Sort" "sums" "[I" : Cond) ∈ gt := gt_of (ck_1 (i := 189) rfl) rfl
set_option maxRecDepth 20000 in
theorem wd_190 : (Jvm.Cond.fieldLink "RungHouse$Sort" 15 "RungHouse$Sort" "chances" "[I" : Cond) ∈ gt := gt_of (ck_1 (i := 190) rfl) rfl
set_option maxRecDepth 20000 in
theorem wd_191 : (Jvm.Cond.fieldLink "RungHouse" 174 "RungHouse$Sort" "chances" "[I" : Cond) ∈ gt := gt_of (ck_1 (i := 191) rfl) rfl
set_option maxRecDepth 20000 in
theorem wd_192 : (Jvm.Cond.fieldLink "RungHouse$Sort" 18 "RungHouse$Sort" "sparedChances" "[I" : Cond) ∈ gt := gt_of (ck_1 (i := 192) rfl) rfl
set_option maxRecDepth 20000 in
theorem wd_193 : (Jvm.Cond.fieldLink "RungHouse$Sort" 21 "RungHouse$Sort" "size" "I" : Cond) ∈ gt := gt_of (ck_1 (i := 193) rfl) rfl
set_option maxRecDepth 20000 in
theorem wd_194 : (Jvm.Cond.fieldLink "RungHouse$Plan" 88 "RungHouse$Sort" "size" "I" : Cond) ∈ gt := gt_of (ck_1 (i := 194) rfl) rfl
set_option maxRecDepth 20000 in
theorem wd_195 : (Jvm.Cond.fieldLink "RungHouse" 155 "RungHouse$Sort" "size" "I" : Cond) ∈ gt := gt_of (ck_1 (i := 195) rfl) rfl
set_option maxRecDepth 20000 in
theorem wd_196 : (Jvm.Cond.fieldLink "RungHouse$Sort" 25 "RungHouse$Sort" "allChances" "I" : Cond) ∈ gt := gt_of (ck_1 (i := 196) rfl) rfl
set_option maxRecDepth 20000 in
theorem wd_197 : (Jvm.Cond.fieldLink "RungHouse" 158 "RungHouse$Sort" "allChances" "I" : Cond) ∈ gt := gt_of (ck_1 (i := 197) rfl) rfl
set_option maxRecDepth 20000 in
theorem wd_198 : (Jvm.Cond.fieldLink "RungHouse$Sort" 28 "RungHouse$Sort" "hasPains" "Z" : Cond) ∈ gt := gt_of (ck_1 (i := 198) rfl) rfl
set_option maxRecDepth 20000 in
theorem wd_199 : (Jvm.Cond.fieldLink "RungHouse$Plan" 64 "RungHouse$Sort" "hasPains" "Z" : Cond) ∈ gt := gt_of (ck_1 (i := 199) rfl) rfl
set_option maxRecDepth 20000 in
theorem wd_200 : (Jvm.Cond.fieldLink "RungHouse" 161 "RungHouse$Sort" "hasPains" "Z" : Cond) ∈ gt := gt_of (ck_1 (i := 200) rfl) rfl
set_option maxRecDepth 20000 in
theorem wd_201 : (Jvm.Cond.fieldLink "RungHouse$Sort" 32 "RungHouse$Sort" "painCost" "I" : Cond) ∈ gt := gt_of (ck_1 (i := 201) rfl) rfl
set_option maxRecDepth 20000 in
theorem wd_202 : (Jvm.Cond.fieldLink "RungHouse" 165 "RungHouse$Sort" "painCost" "I" : Cond) ∈ gt := gt_of (ck_1 (i := 202) rfl) rfl
set_option maxRecDepth 20000 in
theorem wd_203 : (Jvm.Cond.fieldLink "RungHouse$Plan" 101 "RungHouse$Sort" "painCost" "I" : Cond) ∈ gt := gt_of (ck_1 (i := 203) rfl) rfl
set_option maxRecDepth 20000 in
theorem wd_204 : (Jvm.Cond.fieldLink "RungHouse$Sort" 35 "RungHouse$Sort" "painSpares" "I" : Cond) ∈ gt := gt_of (ck_1 (i := 204) rfl) rfl
set_option maxRecDepth 20000 in
theorem wd_205 : (Jvm.Cond.fieldLink "RungHouse" 168 "RungHouse$Sort" "painSpares" "I" : Cond) ∈ gt := gt_of (ck_1 (i := 205) rfl) rfl
set_option maxRecDepth 20000 in
theorem wd_206 : (Jvm.Cond.laysFinal "RungHouse$Sort" "RungHouse$Sort" "sums" "[I" : Cond) ∈ gt := gt_of (ck_1 (i := 206) rfl) rfl
set_option maxRecDepth 20000 in
theorem wd_208 : (Jvm.Cond.laysFinal "RungHouse$Sort" "RungHouse$Sort" "chances" "[I" : Cond) ∈ gt := gt_of (ck_1 (i := 208) rfl) rfl
set_option maxRecDepth 20000 in
theorem wd_210 : (Jvm.Cond.laysFinal "RungHouse$Sort" "RungHouse$Sort" "sparedChances" "[I" : Cond) ∈ gt := gt_of (ck_1 (i := 210) rfl) rfl
set_option maxRecDepth 20000 in
theorem wd_212 : (Jvm.Cond.lays "RungHouse$Sort" "RungHouse$Sort" "size" "I" : Cond) ∈ gt := gt_of (ck_1 (i := 212) rfl) rfl
set_option maxRecDepth 20000 in
theorem wd_214 : (Jvm.Cond.lays "RungHouse$Sort" "RungHouse$Sort" "allChances" "I" : Cond) ∈ gt := gt_of (ck_1 (i := 214) rfl) rfl
set_option maxRecDepth 20000 in
theorem wd_216 : (Jvm.Cond.lays "RungHouse$Sort" "RungHouse$Sort" "hasPains" "Z" : Cond) ∈ gt := gt_of (ck_1 (i := 216) rfl) rfl
set_option maxRecDepth 20000 in
theorem wd_218 : (Jvm.Cond.lays "RungHouse$Sort" "RungHouse$Sort" "painCost" "I" : Cond) ∈ gt := gt_of (ck_1 (i := 218) rfl) rfl
set_option maxRecDepth 20000 in
theorem wd_220 : (Jvm.Cond.lays "RungHouse$Sort" "RungHouse$Sort" "painSpares" "I" : Cond) ∈ gt := gt_of (ck_1 (i := 220) rfl) rfl
set_option maxRecDepth 20000 in
theorem wd_223 : (Jvm.Cond.instantiable "RungHouse$Plan" 13 : Cond) ∈ gt := gt_of (ck_1 (i := 223) rfl) rfl
set_option maxRecDepth 20000 in
theorem wd_224 : (Jvm.Cond.methodLink "RungHouse" 78 ⟨"RungHouse$Plan", "<init>", "(LRungHouse$Sort;LRungHouse$House;)V"⟩ : Cond) ∈ gt := gt_of (ck_1 (i := 224) rfl) rfl
set_option maxRecDepth 20000 in
theorem wd_225 : (Jvm.Cond.instanceMethod ⟨"RungHouse$Plan", "<init>", "(LRungHouse$Sort;LRungHouse$House;)V"⟩ : Cond) ∈ gt := gt_of (ck_1 (i := 225) rfl) rfl
set_option maxRecDepth 20000 in
theorem wd_226 : (Jvm.Cond.code ⟨"RungHouse$Plan", "<init>", "(LRungHouse$Sort;LRungHouse$House;)V"⟩ prog_5_method_1_code 3 none : Cond) ∈ gt := gt_of (ck_1 (i := 226) rfl) rfl
set_option maxRecDepth 20000 in
theorem wd_227 : (Jvm.Cond.methodLink "RungHouse$Plan" 3 ⟨"java/lang/Object", "<init>", "()V"⟩ : Cond) ∈ gt := gt_of (ck_1 (i := 227) rfl) rfl
set_option maxRecDepth 20000 in
theorem wd_228 : (Jvm.Cond.fieldLink "RungHouse$Plan" 47 "RungHouse$Plan" "sort" "LRungHouse$Sort;" : Cond) ∈ gt := gt_of (ck_1 (i := 228) rfl) rfl
set_option maxRecDepth 20000 in
theorem wd_229 : (Jvm.Cond.fieldLink "RungHouse$Plan" 51 "RungHouse$Plan" "house" "LRungHouse$House;" : Cond) ∈ gt := gt_of (ck_1 (i := 229) rfl) rfl
set_option maxRecDepth 20000 in
theorem wd_230 : (Jvm.Cond.fieldLink "RungHouse$LongRun" 27 "RungHouse$Plan" "house" "LRungHouse$House;" : Cond) ∈ gt := gt_of (ck_1 (i := 230) rfl) rfl
set_option maxRecDepth 20000 in
theorem wd_231 : (Jvm.Cond.fieldLink "RungHouse$Plan" 9 "RungHouse$Plan" "rule" "LRungHouse$Rule;" : Cond) ∈ gt := gt_of (ck_1 (i := 231) rfl) rfl
set_option maxRecDepth 20000 in
theorem wd_232 : (Jvm.Cond.fieldLink "RungHouse$LongRun" 43 "RungHouse$Plan" "rule" "LRungHouse$Rule;" : Cond) ∈ gt := gt_of (ck_1 (i := 232) rfl) rfl
set_option maxRecDepth 20000 in
theorem wd_233 : (Jvm.Cond.fieldLink "RungHouse$Plan" 15 "RungHouse$Plan" "costs" "[I" : Cond) ∈ gt := gt_of (ck_1 (i := 233) rfl) rfl
set_option maxRecDepth 20000 in
theorem wd_234 : (Jvm.Cond.fieldLink "RungHouse$Plan" 19 "RungHouse$Plan" "painedRungs" "[I" : Cond) ∈ gt := gt_of (ck_1 (i := 234) rfl) rfl
set_option maxRecDepth 20000 in
theorem wd_235 : (Jvm.Cond.fieldLink "RungHouse$Plan" 22 "RungHouse$Plan" "known" "I" : Cond) ∈ gt := gt_of (ck_1 (i := 235) rfl) rfl
set_option maxRecDepth 20000 in
theorem wd_236 : (Jvm.Cond.fieldLink "RungHouse$Plan" 26 "RungHouse$Plan" "table" "[I" : Cond) ∈ gt := gt_of (ck_1 (i := 236) rfl) rfl
set_option maxRecDepth 20000 in
theorem wd_237 : (Jvm.Cond.fieldLink "RungHouse$Plan" 29 "RungHouse$Plan" "firstAsked" "[I" : Cond) ∈ gt := gt_of (ck_1 (i := 237) rfl) rfl
set_option maxRecDepth 20000 in
theorem wd_238 : (Jvm.Cond.fieldLink "RungHouse$Plan" 32 "RungHouse$Plan" "spared" "[I" : Cond) ∈ gt := gt_of (ck_1 (i := 238) rfl) rfl
set_option maxRecDepth 20000 in
theorem wd_239 : (Jvm.Cond.fieldLink "RungHouse$Plan" 35 "RungHouse$Plan" "chanceFrom" "[I" : Cond) ∈ gt := gt_of (ck_1 (i := 239) rfl) rfl
set_option maxRecDepth 20000 in
theorem wd_240 : (Jvm.Cond.fieldLink "RungHouse$Plan" 38 "RungHouse$Plan" "houseBearsFrom" "[I" : Cond) ∈ gt := gt_of (ck_2 (i := 0) rfl) rfl
set_option maxRecDepth 20000 in
theorem wd_241 : (Jvm.Cond.fieldLink "RungHouse$Plan" 41 "RungHouse$Plan" "scrapesOfMonth" "I" : Cond) ∈ gt := gt_of (ck_2 (i := 1) rfl) rfl
set_option maxRecDepth 20000 in
theorem wd_242 : (Jvm.Cond.fieldLink "RungHouse$Plan" 44 "RungHouse$Plan" "rung" "I" : Cond) ∈ gt := gt_of (ck_2 (i := 2) rfl) rfl
set_option maxRecDepth 20000 in
theorem wd_243 : (Jvm.Cond.lays "RungHouse$Plan" "RungHouse$Plan" "sort" "LRungHouse$Sort;" : Cond) ∈ gt := gt_of (ck_2 (i := 3) rfl) rfl
set_option maxRecDepth 20000 in
theorem wd_245 : (Jvm.Cond.lays "RungHouse$Plan" "RungHouse$Plan" "house" "LRungHouse$House;" : Cond) ∈ gt := gt_of (ck_2 (i := 5) rfl) rfl
set_option maxRecDepth 20000 in
theorem wd_247 : (Jvm.Cond.lays "RungHouse$Plan" "RungHouse$Plan" "rule" "LRungHouse$Rule;" : Cond) ∈ gt := gt_of (ck_2 (i := 7) rfl) rfl
set_option maxRecDepth 20000 in
theorem wd_249 : (Jvm.Cond.laysFinal "RungHouse$Plan" "RungHouse$Plan" "costs" "[I" : Cond) ∈ gt := gt_of (ck_2 (i := 9) rfl) rfl
set_option maxRecDepth 20000 in
theorem wd_251 : (Jvm.Cond.laysFinal "RungHouse$Plan" "RungHouse$Plan" "painedRungs" "[I" : Cond) ∈ gt := gt_of (ck_2 (i := 11) rfl) rfl
set_option maxRecDepth 20000 in
theorem wd_253 : (Jvm.Cond.lays "RungHouse$Plan" "RungHouse$Plan" "known" "I" : Cond) ∈ gt := gt_of (ck_2 (i := 13) rfl) rfl
set_option maxRecDepth 20000 in
theorem wd_255 : (Jvm.Cond.laysFinal "RungHouse$Plan" "RungHouse$Plan" "table" "[I" : Cond) ∈ gt := gt_of (ck_2 (i := 15) rfl) rfl
set_option maxRecDepth 20000 in
theorem wd_257 : (Jvm.Cond.laysFinal "RungHouse$Plan" "RungHouse$Plan" "firstAsked" "[I" : Cond) ∈ gt := gt_of (ck_2 (i := 17) rfl) rfl
set_option maxRecDepth 20000 in
theorem wd_259 : (Jvm.Cond.laysFinal "RungHouse$Plan" "RungHouse$Plan" "spared" "[I" : Cond) ∈ gt := gt_of (ck_2 (i := 19) rfl) rfl
set_option maxRecDepth 20000 in
theorem wd_261 : (Jvm.Cond.laysFinal "RungHouse$Plan" "RungHouse$Plan" "chanceFrom" "[I" : Cond) ∈ gt := gt_of (ck_2 (i := 21) rfl) rfl
set_option maxRecDepth 20000 in
theorem wd_263 : (Jvm.Cond.laysFinal "RungHouse$Plan" "RungHouse$Plan" "houseBearsFrom" "[I" : Cond) ∈ gt := gt_of (ck_2 (i := 23) rfl) rfl
set_option maxRecDepth 20000 in
theorem wd_265 : (Jvm.Cond.lays "RungHouse$Plan" "RungHouse$Plan" "scrapesOfMonth" "I" : Cond) ∈ gt := gt_of (ck_2 (i := 25) rfl) rfl
set_option maxRecDepth 20000 in
theorem wd_267 : (Jvm.Cond.lays "RungHouse$Plan" "RungHouse$Plan" "rung" "I" : Cond) ∈ gt := gt_of (ck_2 (i := 27) rfl) rfl
set_option maxRecDepth 20000 in
theorem wd_270 : (Jvm.Cond.instantiable "RungHouse$Rule" 6 : Cond) ∈ gt := gt_of (ck_2 (i := 30) rfl) rfl
set_option maxRecDepth 20000 in
theorem wd_271 : (Jvm.Cond.methodLinkNest "RungHouse" 85 ⟨"RungHouse$Rule", "<init>", "()V"⟩ "RungHouse" : Cond) ∈ lw_tbl := ck_2 (i := 31) rfl
set_option maxRecDepth 20000 in
theorem wd_272 : (Jvm.Cond.instanceMethod ⟨"RungHouse$Rule", "<init>", "()V"⟩ : Cond) ∈ gt := gt_of (ck_2 (i := 32) rfl) rfl
set_option maxRecDepth 20000 in
theorem wd_273 : (Jvm.Cond.code ⟨"RungHouse$Rule", "<init>", "()V"⟩ prog_7_method_1_code 1 none : Cond) ∈ gt := gt_of (ck_2 (i := 33) rfl) rfl
set_option maxRecDepth 20000 in
theorem wd_274 : (Jvm.Cond.methodLink "RungHouse$Rule" 3 ⟨"java/lang/Object", "<init>", "()V"⟩ : Cond) ∈ gt := gt_of (ck_2 (i := 34) rfl) rfl
set_option maxRecDepth 20000 in
theorem wd_275 : (Jvm.Cond.fieldLink "RungHouse$Rule" 9 "RungHouse$Rule" "bars" "[I" : Cond) ∈ gt := gt_of (ck_2 (i := 35) rfl) rfl
set_option maxRecDepth 20000 in
theorem wd_276 : (Jvm.Cond.fieldLink "RungHouse$Rule" 15 "RungHouse$Rule" "firstRungs" "[I" : Cond) ∈ gt := gt_of (ck_2 (i := 36) rfl) rfl
set_option maxRecDepth 20000 in
theorem wd_277 : (Jvm.Cond.fieldLink "RungHouse$Rule" 18 "RungHouse$Rule" "lastRungs" "[I" : Cond) ∈ gt := gt_of (ck_2 (i := 37) rfl) rfl
set_option maxRecDepth 20000 in
theorem wd_278 : (Jvm.Cond.fieldLink "RungHouse$Rule" 21 "RungHouse$Rule" "firstMonths" "[I" : Cond) ∈ gt := gt_of (ck_2 (i := 38) rfl) rfl
set_option maxRecDepth 20000 in
theorem wd_279 : (Jvm.Cond.fieldLink "RungHouse$Rule" 24 "RungHouse$Rule" "lastMonths" "[I" : Cond) ∈ gt := gt_of (ck_2 (i := 39) rfl) rfl
set_option maxRecDepth 20000 in
theorem wd_280 : (Jvm.Cond.fieldLink "RungHouse$Rule" 27 "RungHouse$Rule" "size" "I" : Cond) ∈ gt := gt_of (ck_2 (i := 40) rfl) rfl
set_option maxRecDepth 20000 in
theorem wd_281 : (Jvm.Cond.laysFinal "RungHouse$Rule" "RungHouse$Rule" "bars" "[I" : Cond) ∈ gt := gt_of (ck_2 (i := 41) rfl) rfl
set_option maxRecDepth 20000 in
theorem wd_283 : (Jvm.Cond.laysFinal "RungHouse$Rule" "RungHouse$Rule" "firstRungs" "[I" : Cond) ∈ gt := gt_of (ck_2 (i := 43) rfl) rfl
set_option maxRecDepth 20000 in
theorem wd_285 : (Jvm.Cond.laysFinal "RungHouse$Rule" "RungHouse$Rule" "lastRungs" "[I" : Cond) ∈ gt := gt_of (ck_2 (i := 45) rfl) rfl
set_option maxRecDepth 20000 in
theorem wd_287 : (Jvm.Cond.laysFinal "RungHouse$Rule" "RungHouse$Rule" "firstMonths" "[I" : Cond) ∈ gt := gt_of (ck_2 (i := 47) rfl) rfl
set_option maxRecDepth 20000 in
theorem wd_289 : (Jvm.Cond.laysFinal "RungHouse$Rule" "RungHouse$Rule" "lastMonths" "[I" : Cond) ∈ gt := gt_of (ck_2 (i := 49) rfl) rfl
set_option maxRecDepth 20000 in
theorem wd_291 : (Jvm.Cond.lays "RungHouse$Rule" "RungHouse$Rule" "size" "I" : Cond) ∈ gt := gt_of (ck_2 (i := 51) rfl) rfl
set_option maxRecDepth 20000 in
theorem wd_294 : (Jvm.Cond.fieldLink "RungHouse" 10 "RungHouse" "text" "LRungHouse$Reader;" : Cond) ∈ gt := gt_of (ck_2 (i := 54) rfl) rfl
set_option maxRecDepth 20000 in
theorem wd_295 : (Jvm.Cond.fieldLink "RungHouse" 18 "RungHouse" "houses" "[LRungHouse$House;" : Cond) ∈ gt := gt_of (ck_2 (i := 55) rfl) rfl
set_option maxRecDepth 20000 in
theorem wd_296 : (Jvm.Cond.fieldLink "RungHouse" 24 "RungHouse" "sorts" "[LRungHouse$Sort;" : Cond) ∈ gt := gt_of (ck_2 (i := 56) rfl) rfl
set_option maxRecDepth 20000 in
theorem wd_297 : (Jvm.Cond.fieldLink "RungHouse" 30 "RungHouse" "rules" "[LRungHouse$Rule;" : Cond) ∈ gt := gt_of (ck_2 (i := 57) rfl) rfl
set_option maxRecDepth 20000 in
theorem wd_298 : (Jvm.Cond.fieldLink "RungHouse" 36 "RungHouse" "plans" "[LRungHouse$Plan;" : Cond) ∈ gt := gt_of (ck_2 (i := 58) rfl) rfl
set_option maxRecDepth 20000 in
theorem wd_299 : (Jvm.Cond.fieldLink "RungHouse" 41 "RungHouse" "trial" "LRungHouse$House;" : Cond) ∈ gt := gt_of (ck_2 (i := 59) rfl) rfl
set_option maxRecDepth 20000 in
theorem wd_300 : (Jvm.Cond.fieldLink "RungHouse" 81 "RungHouse" "trialPlan" "LRungHouse$Plan;" : Cond) ∈ gt := gt_of (ck_2 (i := 60) rfl) rfl
set_option maxRecDepth 20000 in
theorem wd_301 : (Jvm.Cond.fieldLink "RungHouse" 48 "RungHouse" "longRun" "LRungHouse$LongRun;" : Cond) ∈ gt := gt_of (ck_2 (i := 61) rfl) rfl
set_option maxRecDepth 20000 in
theorem wd_302 : (Jvm.Cond.fieldLink "RungHouse" 52 "RungHouse" "weights" "[J" : Cond) ∈ gt := gt_of (ck_2 (i := 62) rfl) rfl
set_option maxRecDepth 20000 in
theorem wd_303 : (Jvm.Cond.fieldLink "RungHouse" 59 "RungHouse" "now" "LRungHouse$Memory;" : Cond) ∈ gt := gt_of (ck_2 (i := 63) rfl) rfl
set_option maxRecDepth 20000 in
theorem wd_304 : (Jvm.Cond.fieldLink "RungHouse" 63 "RungHouse" "images" "[LRungHouse$Memory;" : Cond) ∈ gt := gt_of (ck_2 (i := 64) rfl) rfl
set_option maxRecDepth 20000 in
theorem wd_305 : (Jvm.Cond.fieldLink "RungHouse" 67 "RungHouse" "sortCount" "I" : Cond) ∈ gt := gt_of (ck_2 (i := 65) rfl) rfl
set_option maxRecDepth 20000 in
theorem wd_306 : (Jvm.Cond.fieldLink "RungHouse" 71 "RungHouse" "ruleCount" "I" : Cond) ∈ gt := gt_of (ck_2 (i := 66) rfl) rfl
set_option maxRecDepth 20000 in
theorem wd_307 : (Jvm.Cond.fieldLink "RungHouse" 74 "RungHouse" "latestFaultAt" "I" : Cond) ∈ gt := gt_of (ck_2 (i := 67) rfl) rfl
set_option maxRecDepth 20000 in
theorem wd_308 : (Jvm.Cond.laysFinal "RungHouse" "RungHouse" "text" "LRungHouse$Reader;" : Cond) ∈ gt := gt_of (ck_2 (i := 68) rfl) rfl
set_option maxRecDepth 20000 in
theorem wd_310 : (Jvm.Cond.laysFinal "RungHouse" "RungHouse" "houses" "[LRungHouse$House;" : Cond) ∈ gt := gt_of (ck_2 (i := 70) rfl) rfl
set_option maxRecDepth 20000 in
theorem wd_312 : (Jvm.Cond.laysFinal "RungHouse" "RungHouse" "sorts" "[LRungHouse$Sort;" : Cond) ∈ gt := gt_of (ck_2 (i := 72) rfl) rfl
set_option maxRecDepth 20000 in
theorem wd_314 : (Jvm.Cond.laysFinal "RungHouse" "RungHouse" "rules" "[LRungHouse$Rule;" : Cond) ∈ gt := gt_of (ck_2 (i := 74) rfl) rfl
set_option maxRecDepth 20000 in
theorem wd_316 : (Jvm.Cond.laysFinal "RungHouse" "RungHouse" "plans" "[LRungHouse$Plan;" : Cond) ∈ gt := gt_of (ck_2 (i := 76) rfl) rfl
set_option maxRecDepth 20000 in
theorem wd_318 : (Jvm.Cond.laysFinal "RungHouse" "RungHouse" "trial" "LRungHouse$House;" : Cond) ∈ gt := gt_of (ck_2 (i := 78) rfl) rfl
set_option maxRecDepth 20000 in
theorem wd_320 : (Jvm.Cond.laysFinal "RungHouse" "RungHouse" "trialPlan" "LRungHouse$Plan;" : Cond) ∈ gt := gt_of (ck_2 (i := 80) rfl) rfl
set_option maxRecDepth 20000 in
theorem wd_322 : (Jvm.Cond.laysFinal "RungHouse" "RungHouse" "longRun" "LRungHouse$LongRun;" : Cond) ∈ gt := gt_of (ck_2 (i := 82) rfl) rfl
set_option maxRecDepth 20000 in
theorem wd_324 : (Jvm.Cond.laysFinal "RungHouse" "RungHouse" "weights" "[J" : Cond) ∈ gt := gt_of (ck_2 (i := 84) rfl) rfl
set_option maxRecDepth 20000 in
theorem wd_326 : (Jvm.Cond.laysFinal "RungHouse" "RungHouse" "now" "LRungHouse$Memory;" : Cond) ∈ gt := gt_of (ck_2 (i := 86) rfl) rfl
set_option maxRecDepth 20000 in
theorem wd_328 : (Jvm.Cond.laysFinal "RungHouse" "RungHouse" "images" "[LRungHouse$Memory;" : Cond) ∈ gt := gt_of (ck_2 (i := 88) rfl) rfl
set_option maxRecDepth 20000 in
theorem wd_330 : (Jvm.Cond.lays "RungHouse" "RungHouse" "sortCount" "I" : Cond) ∈ gt := gt_of (ck_2 (i := 90) rfl) rfl
set_option maxRecDepth 20000 in
theorem wd_332 : (Jvm.Cond.lays "RungHouse" "RungHouse" "ruleCount" "I" : Cond) ∈ gt := gt_of (ck_2 (i := 92) rfl) rfl
set_option maxRecDepth 20000 in
theorem wd_334 : (Jvm.Cond.lays "RungHouse" "RungHouse" "latestFaultAt" "I" : Cond) ∈ gt := gt_of (ck_2 (i := 94) rfl) rfl
set_option maxRecDepth 20000 in
theorem wd_337 : (Jvm.Cond.methodLink "RungHouseLaw" 15 ⟨"RungHouse", "feed", "(IJ)I"⟩ : Cond) ∈ gt := gt_of (ck_2 (i := 97) rfl) rfl
set_option maxRecDepth 20000 in
theorem wd_338 : (Jvm.Cond.instanceMethod ⟨"RungHouse", "feed", "(IJ)I"⟩ : Cond) ∈ gt := gt_of (ck_2 (i := 98) rfl) rfl
set_option maxRecDepth 20000 in
theorem wd_339 : (Jvm.Cond.selects "RungHouse" ⟨"RungHouse", "feed", "(IJ)I"⟩ ⟨"RungHouse", "feed", "(IJ)I"⟩ : Cond) ∈ gt := gt_of (ck_2 (i := 99) rfl) rfl
set_option maxRecDepth 20000 in
theorem wd_340 : (Jvm.Cond.code ⟨"RungHouse", "feed", "(IJ)I"⟩ prog_1_method_2_code 5 (Option.some FieldType.int) : Cond) ∈ gt := gt_of (ck_2 (i := 100) rfl) rfl
set_option maxRecDepth 20000 in
theorem wd_341 : (Jvm.Cond.methodLink "RungHouse" 86 ⟨"RungHouse", "isOut", "(III)Z"⟩ : Cond) ∈ gt := gt_of (ck_2 (i := 101) rfl) rfl
set_option maxRecDepth 20000 in
theorem wd_342 : (Jvm.Cond.static ⟨"RungHouse", "isOut", "(III)Z"⟩ : Cond) ∈ gt := gt_of (ck_2 (i := 102) rfl) rfl
set_option maxRecDepth 20000 in
theorem wd_343 : (Jvm.Cond.code ⟨"RungHouse", "isOut", "(III)Z"⟩ prog_1_method_34_code 3 (Option.some FieldType.boolean) : Cond) ∈ gt := gt_of (ck_2 (i := 103) rfl) rfl
set_option maxRecDepth 20000 in
theorem wd_344 : (Jvm.Cond.constant "RungHouse" 90 (-1000000002 : Int32) : Cond) ∈ gt := gt_of (ck_2 (i := 104) rfl) rfl
set_option maxRecDepth 20000 in
theorem wd_345 : (Jvm.Cond.constant "RungHouse" 94 (-1000000004 : Int32) : Cond) ∈ gt := gt_of (ck_2 (i := 105) rfl) rfl
set_option maxRecDepth 20000 in
theorem wd_346 : (Jvm.Cond.methodLink "RungHouse" 95 ⟨"RungHouse$Reader", "add", "(I)V"⟩ : Cond) ∈ gt := gt_of (ck_2 (i := 106) rfl) rfl
set_option maxRecDepth 20000 in
theorem wd_347 : (Jvm.Cond.instanceMethod ⟨"RungHouse$Reader", "add", "(I)V"⟩ : Cond) ∈ gt := gt_of (ck_2 (i := 107) rfl) rfl
set_option maxRecDepth 20000 in
theorem wd_348 : (Jvm.Cond.selects "RungHouse$Reader" ⟨"RungHouse$Reader", "add", "(I)V"⟩ ⟨"RungHouse$Reader", "add", "(I)V"⟩ : Cond) ∈ gt := gt_of (ck_2 (i := 108) rfl) rfl
set_option maxRecDepth 20000 in
theorem wd_349 : (Jvm.Cond.code ⟨"RungHouse$Reader", "add", "(I)V"⟩ prog_6_method_2_code 2 none : Cond) ∈ gt := gt_of (ck_2 (i := 109) rfl) rfl
set_option maxRecDepth 20000 in
theorem wd_350 : (Jvm.Cond.methodLink "RungHouseLaw" 20 ⟨"RungHouse", "house", "(I)I"⟩ : Cond) ∈ gt := gt_of (ck_2 (i := 110) rfl) rfl
set_option maxRecDepth 20000 in
theorem wd_351 : (Jvm.Cond.instanceMethod ⟨"RungHouse", "house", "(I)I"⟩ : Cond) ∈ gt := gt_of (ck_2 (i := 111) rfl) rfl
set_option maxRecDepth 20000 in
theorem wd_352 : (Jvm.Cond.selects "RungHouse" ⟨"RungHouse", "house", "(I)I"⟩ ⟨"RungHouse", "house", "(I)I"⟩ : Cond) ∈ gt := gt_of (ck_2 (i := 112) rfl) rfl
set_option maxRecDepth 20000 in
theorem wd_353 : (Jvm.Cond.code ⟨"RungHouse", "house", "(I)I"⟩ prog_1_method_3_code 4 (Option.some FieldType.int) : Cond) ∈ gt := gt_of (ck_2 (i := 113) rfl) rfl
set_option maxRecDepth 20000 in
theorem wd_354 : (Jvm.Cond.constant "RungHouse" 99 (-1000000001 : Int32) : Cond) ∈ gt := gt_of (ck_2 (i := 114) rfl) rfl
set_option maxRecDepth 20000 in
theorem wd_355 : (Jvm.Cond.methodLink "RungHouse" 100 ⟨"RungHouse$House", "readFrom", "(LRungHouse$Reader;)V"⟩ : Cond) ∈ gt := gt_of (ck_2 (i := 115) rfl) rfl
set_option maxRecDepth 20000 in
theorem wd_356 : (Jvm.Cond.instanceMethod ⟨"RungHouse$House", "readFrom", "(LRungHouse$Reader;)V"⟩ : Cond) ∈ gt := gt_of (ck_2 (i := 116) rfl) rfl
set_option maxRecDepth 20000 in
theorem wd_357 : (Jvm.Cond.selects "RungHouse$House" ⟨"RungHouse$House", "readFrom", "(LRungHouse$Reader;)V"⟩ ⟨"RungHouse$House", "readFrom", "(LRungHouse$Reader;)V"⟩ : Cond) ∈ gt := gt_of (ck_2 (i := 117) rfl) rfl
set_option maxRecDepth 20000 in
theorem wd_358 : (Jvm.Cond.code ⟨"RungHouse$House", "readFrom", "(LRungHouse$Reader;)V"⟩ prog_2_method_6_code 4 none : Cond) ∈ gt := gt_of (ck_2 (i := 118) rfl) rfl
set_option maxRecDepth 20000 in
theorem wd_359 : (Jvm.Cond.methodLink "RungHouse$House" 47 ⟨"RungHouse$Reader", "open", "()V"⟩ : Cond) ∈ gt := gt_of (ck_2 (i := 119) rfl) rfl
set_option maxRecDepth 20000 in
theorem wd_360 : (Jvm.Cond.instanceMethod ⟨"RungHouse$Reader", "open", "()V"⟩ : Cond) ∈ gt := gt_of (ck_2 (i := 120) rfl) rfl
set_option maxRecDepth 20000 in
theorem wd_361 : (Jvm.Cond.selects "RungHouse$Reader" ⟨"RungHouse$Reader", "open", "()V"⟩ ⟨"RungHouse$Reader", "open", "()V"⟩ : Cond) ∈ gt := gt_of (ck_2 (i := 121) rfl) rfl
set_option maxRecDepth 20000 in
theorem wd_362 : (Jvm.Cond.code ⟨"RungHouse$Reader", "open", "()V"⟩ prog_6_method_3_code 1 none : Cond) ∈ gt := gt_of (ck_2 (i := 122) rfl) rfl
set_option maxRecDepth 20000 in
theorem wd_363 : (Jvm.Cond.methodLink "RungHouse$Reader" 40 ⟨"RungHouse$Reader", "step", "()V"⟩ : Cond) ∈ gt := gt_of (ck_2 (i := 123) rfl) rfl
set_option maxRecDepth 20000 in
theorem wd_364 : (Jvm.Cond.instanceMethod ⟨"RungHouse$Reader", "step", "()V"⟩ : Cond) ∈ gt := gt_of (ck_2 (i := 124) rfl) rfl
set_option maxRecDepth 20000 in
theorem wd_365 : (Jvm.Cond.selects "RungHouse$Reader" ⟨"RungHouse$Reader", "step", "()V"⟩ ⟨"RungHouse$Reader", "step", "()V"⟩ : Cond) ∈ gt := gt_of (ck_2 (i := 125) rfl) rfl
set_option maxRecDepth 20000 in
theorem wd_366 : (Jvm.Cond.code ⟨"RungHouse$Reader", "step", "()V"⟩ prog_6_method_6_code 1 none : Cond) ∈ gt := gt_of (ck_2 (i := 126) rfl) rfl
set_option maxRecDepth 20000 in
theorem wd_367 : (Jvm.Cond.methodLink "RungHouse$Reader" 43 ⟨"RungHouse$Reader", "isLetter", "(I)Z"⟩ : Cond) ∈ gt := gt_of (ck_2 (i := 127) rfl) rfl
set_option maxRecDepth 20000 in
theorem wd_368 : (Jvm.Cond.static ⟨"RungHouse$Reader", "isLetter", "(I)Z"⟩ : Cond) ∈ gt := gt_of (ck_2 (i := 128) rfl) rfl
set_option maxRecDepth 20000 in
theorem wd_369 : (Jvm.Cond.code ⟨"RungHouse$Reader", "isLetter", "(I)Z"⟩ prog_6_method_12_code 1 (Option.some FieldType.boolean) : Cond) ∈ gt := gt_of (ck_2 (i := 129) rfl) rfl
set_option maxRecDepth 20000 in
theorem wd_370 : (Jvm.Cond.methodLink "RungHouse$Reader" 47 ⟨"RungHouse$Reader", "passLetters", "()V"⟩ : Cond) ∈ gt := gt_of (ck_2 (i := 130) rfl) rfl
set_option maxRecDepth 20000 in
theorem wd_372 : (Jvm.Cond.instanceMethod ⟨"RungHouse$Reader", "passLetters", "()V"⟩ : Cond) ∈ gt := gt_of (ck_2 (i := 132) rfl) rfl
set_option maxRecDepth 20000 in
theorem wd_373 : (Jvm.Cond.code ⟨"RungHouse$Reader", "passLetters", "()V"⟩ prog_6_method_10_code 1 none : Cond) ∈ gt := gt_of (ck_2 (i := 133) rfl) rfl
set_option maxRecDepth 20000 in
theorem wd_374 : (Jvm.Cond.methodLink "RungHouse$Reader" 50 ⟨"RungHouse$Reader", "isFigure", "(I)Z"⟩ : Cond) ∈ gt := gt_of (ck_2 (i := 134) rfl) rfl
set_option maxRecDepth 20000 in
theorem wd_375 : (Jvm.Cond.static ⟨"RungHouse$Reader", "isFigure", "(I)Z"⟩ : Cond) ∈ gt := gt_of (ck_2 (i := 135) rfl) rfl
set_option maxRecDepth 20000 in
theorem wd_376 : (Jvm.Cond.code ⟨"RungHouse$Reader", "isFigure", "(I)Z"⟩ prog_6_method_13_code 1 (Option.some FieldType.boolean) : Cond) ∈ gt := gt_of (ck_2 (i := 136) rfl) rfl
set_option maxRecDepth 20000 in
theorem wd_377 : (Jvm.Cond.methodLink "RungHouse$Reader" 53 ⟨"RungHouse$Reader", "passFigures", "()V"⟩ : Cond) ∈ gt := gt_of (ck_2 (i := 137) rfl) rfl
set_option maxRecDepth 20000 in
theorem wd_379 : (Jvm.Cond.instanceMethod ⟨"RungHouse$Reader", "passFigures", "()V"⟩ : Cond) ∈ gt := gt_of (ck_2 (i := 139) rfl) rfl
set_option maxRecDepth 20000 in
theorem wd_380 : (Jvm.Cond.code ⟨"RungHouse$Reader", "passFigures", "()V"⟩ prog_6_method_11_code 1 none : Cond) ∈ gt := gt_of (ck_2 (i := 140) rfl) rfl
set_option maxRecDepth 20000 in
theorem wd_381 : (Jvm.Cond.methodLink "RungHouse$House" 52 ⟨"RungHouse$Reader", "goesOn", "()Z"⟩ : Cond) ∈ gt := gt_of (ck_2 (i := 141) rfl) rfl
set_option maxRecDepth 20000 in
theorem wd_382 : (Jvm.Cond.instanceMethod ⟨"RungHouse$Reader", "goesOn", "()Z"⟩ : Cond) ∈ gt := gt_of (ck_2 (i := 142) rfl) rfl
set_option maxRecDepth 20000 in
theorem wd_383 : (Jvm.Cond.selects "RungHouse$Reader" ⟨"RungHouse$Reader", "goesOn", "()Z"⟩ ⟨"RungHouse$Reader", "goesOn", "()Z"⟩ : Cond) ∈ gt := gt_of (ck_2 (i := 143) rfl) rfl
set_option maxRecDepth 20000 in
theorem wd_384 : (Jvm.Cond.code ⟨"RungHouse$Reader", "goesOn", "()Z"⟩ prog_6_method_4_code 1 (Option.some FieldType.boolean) : Cond) ∈ gt := gt_of (ck_2 (i := 144) rfl) rfl
set_option maxRecDepth 20000 in
theorem wd_385 : (Jvm.Cond.stringRef "RungHouse$House" 56 "rung" : Cond) ∈ lw_tbl := ck_2 (i := 145) rfl
set_option maxRecDepth 20000 in
theorem wd_386 : (Jvm.Cond.methodLink "RungHouse$House" 58 ⟨"RungHouse$Reader", "isWord", "(Ljava/lang/String;)Z"⟩ : Cond) ∈ gt := gt_of (ck_2 (i := 146) rfl) rfl
set_option maxRecDepth 20000 in
theorem wd_387 : (Jvm.Cond.instanceMethod ⟨"RungHouse$Reader", "isWord", "(Ljava/lang/String;)Z"⟩ : Cond) ∈ gt := gt_of (ck_2 (i := 147) rfl) rfl
set_option maxRecDepth 20000 in
theorem wd_388 : (Jvm.Cond.selects "RungHouse$Reader" ⟨"RungHouse$Reader", "isWord", "(Ljava/lang/String;)Z"⟩ ⟨"RungHouse$Reader", "isWord", "(Ljava/lang/String;)Z"⟩ : Cond) ∈ gt := gt_of (ck_2 (i := 148) rfl) rfl
set_option maxRecDepth 20000 in
theorem wd_389 : (Jvm.Cond.code ⟨"RungHouse$Reader", "isWord", "(Ljava/lang/String;)Z"⟩ prog_6_method_7_code 3 (Option.some FieldType.boolean) : Cond) ∈ gt := gt_of (ck_2 (i := 149) rfl) rfl
set_option maxRecDepth 20000 in
theorem wd_390 : (Jvm.Cond.methodLink "RungHouse$Reader" 56 ⟨"java/lang/String", "length", "()I"⟩ : Cond) ∈ gt := gt_of (ck_2 (i := 150) rfl) rfl
set_option maxRecDepth 20000 in
theorem wd_391 : (Jvm.Cond.instanceMethod ⟨"java/lang/String", "length", "()I"⟩ : Cond) ∈ gt := gt_of (ck_2 (i := 151) rfl) rfl
set_option maxRecDepth 20000 in
theorem wd_392 : (Jvm.Cond.selects "java/lang/String" ⟨"java/lang/String", "length", "()I"⟩ ⟨"java/lang/String", "length", "()I"⟩ : Cond) ∈ gt := gt_of (ck_2 (i := 152) rfl) rfl
set_option maxRecDepth 20000 in
theorem wd_393 : (Jvm.Cond.code ⟨"java/lang/String", "length", "()I"⟩ prog_12_method_54_code 1 (Option.some FieldType.int) : Cond) ∈ gt := gt_of (ck_2 (i := 153) rfl) rfl
set_option maxRecDepth 20000 in
theorem wd_394 : (Jvm.Cond.methodLink "java/lang/String" 335 ⟨"java/lang/String", "coder", "()B"⟩ : Cond) ∈ gt := gt_of (ck_2 (i := 154) rfl) rfl
set_option maxRecDepth 20000 in
theorem wd_395 : (Jvm.Cond.instanceMethod ⟨"java/lang/String", "coder", "()B"⟩ : Cond) ∈ gt := gt_of (ck_2 (i := 155) rfl) rfl
set_option maxRecDepth 20000 in
theorem wd_396 : (Jvm.Cond.selects "java/lang/String" ⟨"java/lang/String", "coder", "()B"⟩ ⟨"java/lang/String", "coder", "()B"⟩ : Cond) ∈ gt := gt_of (ck_2 (i := 156) rfl) rfl
set_option maxRecDepth 20000 in
theorem wd_397 : (Jvm.Cond.code ⟨"java/lang/String", "coder", "()B"⟩ prog_12_method_152_code 1 (Option.some FieldType.byte) : Cond) ∈ gt := gt_of (ck_2 (i := 157) rfl) rfl
set_option maxRecDepth 20000 in
theorem wd_398 : (Jvm.Cond.fieldLink "java/lang/String" 38 "java/lang/String" "COMPACT_STRINGS" "Z" : Cond) ∈ gt := gt_of (ck_2 (i := 158) rfl) rfl
set_option maxRecDepth 20000 in
theorem wd_399 : (Jvm.Cond.laysStatic "java/lang/String" "COMPACT_STRINGS" "Z" : Cond) ∈ lw_tbl := ck_2 (i := 159) rfl
set_option maxRecDepth 20000 in
theorem wd_400 : (Jvm.Cond.methodLink "RungHouse$Reader" 61 ⟨"java/lang/String", "charAt", "(I)C"⟩ : Cond) ∈ gt := gt_of (ck_2 (i := 160) rfl) rfl
set_option maxRecDepth 20000 in
theorem wd_401 : (Jvm.Cond.instanceMethod ⟨"java/lang/String", "charAt", "(I)C"⟩ : Cond) ∈ gt := gt_of (ck_2 (i := 161) rfl) rfl
set_option maxRecDepth 20000 in
theorem wd_402 : (Jvm.Cond.selects "java/lang/String" ⟨"java/lang/String", "charAt", "(I)C"⟩ ⟨"java/lang/String", "charAt", "(I)C"⟩ : Cond) ∈ gt := gt_of (ck_2 (i := 162) rfl) rfl
set_option maxRecDepth 20000 in
theorem wd_403 : (Jvm.Cond.code ⟨"java/lang/String", "charAt", "(I)C"⟩ prog_12_method_56_code 2 (Option.some FieldType.char) : Cond) ∈ gt := gt_of (ck_2 (i := 163) rfl) rfl
set_option maxRecDepth 20000 in
theorem wd_404 : (Jvm.Cond.methodLink "java/lang/String" 492 ⟨"java/lang/String", "isLatin1", "()Z"⟩ : Cond) ∈ gt := gt_of (ck_2 (i := 164) rfl) rfl
set_option maxRecDepth 20000 in
theorem wd_405 : (Jvm.Cond.instanceMethod ⟨"java/lang/String", "isLatin1", "()Z"⟩ : Cond) ∈ gt := gt_of (ck_2 (i := 165) rfl) rfl
set_option maxRecDepth 20000 in
theorem wd_406 : (Jvm.Cond.selects "java/lang/String" ⟨"java/lang/String", "isLatin1", "()Z"⟩ ⟨"java/lang/String", "isLatin1", "()Z"⟩ : Cond) ∈ gt := gt_of (ck_2 (i := 166) rfl) rfl
set_option maxRecDepth 20000 in
theorem wd_407 : (Jvm.Cond.code ⟨"java/lang/String", "isLatin1", "()Z"⟩ prog_12_method_154_code 1 (Option.some FieldType.boolean) : Cond) ∈ gt := gt_of (ck_2 (i := 167) rfl) rfl
set_option maxRecDepth 20000 in
theorem wd_408 : (Jvm.Cond.methodLink "java/lang/String" 495 ⟨"java/lang/StringLatin1", "charAt", "([BI)C"⟩ : Cond) ∈ gt := gt_of (ck_2 (i := 168) rfl) rfl
set_option maxRecDepth 20000 in
theorem wd_409 : (Jvm.Cond.static ⟨"java/lang/StringLatin1", "charAt", "([BI)C"⟩ : Cond) ∈ gt := gt_of (ck_2 (i := 169) rfl) rfl
set_option maxRecDepth 20000 in
theorem wd_410 : (Jvm.Cond.code ⟨"java/lang/StringLatin1", "charAt", "([BI)C"⟩ prog_13_method_2_code 2 (Option.some FieldType.char) : Cond) ∈ gt := gt_of (ck_2 (i := 170) rfl) rfl
set_option maxRecDepth 20000 in
theorem wd_411 : (Jvm.Cond.methodLink "java/lang/StringLatin1" 9 ⟨"java/lang/String", "checkIndex", "(II)V"⟩ : Cond) ∈ gt := gt_of (ck_2 (i := 171) rfl) rfl
set_option maxRecDepth 20000 in
theorem wd_412 : (Jvm.Cond.static ⟨"java/lang/String", "checkIndex", "(II)V"⟩ : Cond) ∈ gt := gt_of (ck_2 (i := 172) rfl) rfl
set_option maxRecDepth 20000 in
theorem wd_413 : (Jvm.Cond.code ⟨"java/lang/String", "checkIndex", "(II)V"⟩ prog_12_method_155_code 2 none : Cond) ∈ gt := gt_of (ck_2 (i := 173) rfl) rfl
set_option maxRecDepth 20000 in
theorem wd_414 : (Jvm.Cond.fieldLink "java/lang/String" 1053 "jdk/internal/util/Preconditions" "SIOOBE_FORMATTER" "Ljava/util/function/BiFunction;" : Cond) ∈ gt := gt_of (ck_2 (i := 174) rfl) rfl
set_option maxRecDepth 20000 in
theorem wd_415 : (Jvm.Cond.laysStatic "jdk/internal/util/Preconditions" "SIOOBE_FORMATTER" "Ljava/util/function/BiFunction;" : Cond) ∈ lw_tbl := ck_2 (i := 175) rfl
set_option maxRecDepth 20000 in
theorem wd_416 : (Jvm.Cond.methodLink "java/lang/String" 1059 ⟨"jdk/internal/util/Preconditions", "checkIndex", "(IILjava/util/function/BiFunction;)I"⟩ : Cond) ∈ gt := gt_of (ck_2 (i := 176) rfl) rfl
set_option maxRecDepth 20000 in
theorem wd_417 : (Jvm.Cond.static ⟨"jdk/internal/util/Preconditions", "checkIndex", "(IILjava/util/function/BiFunction;)I"⟩ : Cond) ∈ gt := gt_of (ck_2 (i := 177) rfl) rfl
set_option maxRecDepth 20000 in
theorem wd_418 : (Jvm.Cond.code ⟨"jdk/internal/util/Preconditions", "checkIndex", "(IILjava/util/function/BiFunction;)I"⟩ prog_15_method_11_code 3 (Option.some FieldType.int) : Cond) ∈ gt := gt_of (ck_2 (i := 178) rfl) rfl
set_option maxRecDepth 20000 in
theorem wd_419 : (Jvm.Cond.methodLink "java/lang/String" 498 ⟨"java/lang/StringUTF16", "charAt", "([BI)C"⟩ : Cond) ∈ gt := gt_of (ck_2 (i := 179) rfl) rfl
set_option maxRecDepth 20000 in
theorem wd_420 : (Jvm.Cond.static ⟨"java/lang/StringUTF16", "charAt", "([BI)C"⟩ : Cond) ∈ gt := gt_of (ck_2 (i := 180) rfl) rfl
set_option maxRecDepth 20000 in
theorem wd_421 : (Jvm.Cond.code ⟨"java/lang/StringUTF16", "charAt", "([BI)C"⟩ prog_14_method_83_code 2 (Option.some FieldType.char) : Cond) ∈ gt := gt_of (ck_2 (i := 181) rfl) rfl
set_option maxRecDepth 20000 in
theorem wd_422 : (Jvm.Cond.methodLink "java/lang/StringUTF16" 67 ⟨"java/lang/StringUTF16", "checkIndex", "(I[B)V"⟩ : Cond) ∈ gt := gt_of (ck_2 (i := 182) rfl) rfl
set_option maxRecDepth 20000 in
theorem wd_423 : (Jvm.Cond.static ⟨"java/lang/StringUTF16", "checkIndex", "(I[B)V"⟩ : Cond) ∈ gt := gt_of (ck_2 (i := 183) rfl) rfl
set_option maxRecDepth 20000 in
theorem wd_424 : (Jvm.Cond.code ⟨"java/lang/StringUTF16", "checkIndex", "(I[B)V"⟩ prog_14_method_91_code 2 none : Cond) ∈ gt := gt_of (ck_2 (i := 184) rfl) rfl
set_option maxRecDepth 20000 in
theorem wd_425 : (Jvm.Cond.methodLink "java/lang/StringUTF16" 48 ⟨"java/lang/StringUTF16", "length", "([B)I"⟩ : Cond) ∈ gt := gt_of (ck_2 (i := 185) rfl) rfl
set_option maxRecDepth 20000 in
theorem wd_426 : (Jvm.Cond.static ⟨"java/lang/StringUTF16", "length", "([B)I"⟩ : Cond) ∈ gt := gt_of (ck_2 (i := 186) rfl) rfl
set_option maxRecDepth 20000 in
theorem wd_427 : (Jvm.Cond.code ⟨"java/lang/StringUTF16", "length", "([B)I"⟩ prog_14_method_6_code 1 (Option.some FieldType.int) : Cond) ∈ gt := gt_of (ck_2 (i := 187) rfl) rfl
set_option maxRecDepth 20000 in
theorem wd_428 : (Jvm.Cond.methodLink "java/lang/StringUTF16" 414 ⟨"java/lang/String", "checkIndex", "(II)V"⟩ : Cond) ∈ gt := gt_of (ck_2 (i := 188) rfl) rfl
set_option maxRecDepth 20000 in
theorem wd_429 : (Jvm.Cond.methodLink "java/lang/StringUTF16" 71 ⟨"java/lang/StringUTF16", "getChar", "([BI)C"⟩ : Cond) ∈ gt := gt_of (ck_2 (i := 189) rfl) rfl
set_option maxRecDepth 20000 in
theorem wd_430 : (Jvm.Cond.static ⟨"java/lang/StringUTF16", "getChar", "([BI)C"⟩ : Cond) ∈ gt := gt_of (ck_2 (i := 190) rfl) rfl
set_option maxRecDepth 20000 in
theorem wd_431 : (Jvm.Cond.code ⟨"java/lang/StringUTF16", "getChar", "([BI)C"⟩ prog_14_method_5_code 2 (Option.some FieldType.char) : Cond) ∈ gt := gt_of (ck_2 (i := 191) rfl) rfl
set_option maxRecDepth 20000 in
theorem wd_432 : (Jvm.Cond.fieldLink "java/lang/StringUTF16" 44 "java/lang/StringUTF16" "$assertionsDisabled" "Z" : Cond) ∈ gt := gt_of (ck_2 (i := 192) rfl) rfl
set_option maxRecDepth 20000 in
theorem wd_433 : (Jvm.Cond.laysStatic "java/lang/StringUTF16" "$assertionsDisabled" "Z" : Cond) ∈ lw_tbl := ck_2 (i := 193) rfl
set_option maxRecDepth 20000 in
theorem wd_434 : (Jvm.Cond.fieldLink "java/lang/StringUTF16" 59 "java/lang/StringUTF16" "HI_BYTE_SHIFT" "I" : Cond) ∈ gt := gt_of (ck_2 (i := 194) rfl) rfl
set_option maxRecDepth 20000 in
theorem wd_435 : (Jvm.Cond.laysStatic "java/lang/StringUTF16" "HI_BYTE_SHIFT" "I" : Cond) ∈ lw_tbl := ck_2 (i := 195) rfl
set_option maxRecDepth 20000 in
theorem wd_436 : (Jvm.Cond.fieldLink "java/lang/StringUTF16" 63 "java/lang/StringUTF16" "LO_BYTE_SHIFT" "I" : Cond) ∈ gt := gt_of (ck_2 (i := 196) rfl) rfl
set_option maxRecDepth 20000 in
theorem wd_437 : (Jvm.Cond.laysStatic "java/lang/StringUTF16" "LO_BYTE_SHIFT" "I" : Cond) ∈ lw_tbl := ck_2 (i := 197) rfl
set_option maxRecDepth 20000 in
theorem wd_438 : (Jvm.Cond.methodLink "RungHouse$House" 62 ⟨"RungHouse$House", "readRung", "(LRungHouse$Reader;)V"⟩ : Cond) ∈ gt := gt_of (ck_2 (i := 198) rfl) rfl
set_option maxRecDepth 20000 in
theorem wd_440 : (Jvm.Cond.instanceMethod ⟨"RungHouse$House", "readRung", "(LRungHouse$Reader;)V"⟩ : Cond) ∈ gt := gt_of (ck_2 (i := 200) rfl) rfl
set_option maxRecDepth 20000 in
theorem wd_441 : (Jvm.Cond.code ⟨"RungHouse$House", "readRung", "(LRungHouse$Reader;)V"⟩ prog_2_method_7_code 2 none : Cond) ∈ gt := gt_of (ck_2 (i := 201) rfl) rfl
set_option maxRecDepth 20000 in
theorem wd_442 : (Jvm.Cond.methodLink "RungHouse$House" 73 ⟨"RungHouse$Reader", "fail", "(II)V"⟩ : Cond) ∈ gt := gt_of (ck_2 (i := 202) rfl) rfl
set_option maxRecDepth 20000 in
theorem wd_443 : (Jvm.Cond.instanceMethod ⟨"RungHouse$Reader", "fail", "(II)V"⟩ : Cond) ∈ gt := gt_of (ck_2 (i := 203) rfl) rfl
set_option maxRecDepth 20000 in
theorem wd_444 : (Jvm.Cond.selects "RungHouse$Reader" ⟨"RungHouse$Reader", "fail", "(II)V"⟩ ⟨"RungHouse$Reader", "fail", "(II)V"⟩ : Cond) ∈ gt := gt_of (ck_2 (i := 204) rfl) rfl
set_option maxRecDepth 20000 in
theorem wd_445 : (Jvm.Cond.code ⟨"RungHouse$Reader", "fail", "(II)V"⟩ prog_6_method_5_code 3 none : Cond) ∈ gt := gt_of (ck_2 (i := 205) rfl) rfl
set_option maxRecDepth 20000 in
theorem wd_446 : (Jvm.Cond.methodLink "RungHouse$House" 80 ⟨"RungHouse$Reader", "step", "()V"⟩ : Cond) ∈ gt := gt_of (ck_2 (i := 206) rfl) rfl
set_option maxRecDepth 20000 in
theorem wd_447 : (Jvm.Cond.methodLink "RungHouse$House" 83 ⟨"RungHouse$Reader", "number", "(II)I"⟩ : Cond) ∈ gt := gt_of (ck_2 (i := 207) rfl) rfl
set_option maxRecDepth 20000 in
theorem wd_448 : (Jvm.Cond.instanceMethod ⟨"RungHouse$Reader", "number", "(II)I"⟩ : Cond) ∈ gt := gt_of (ck_2 (i := 208) rfl) rfl
set_option maxRecDepth 20000 in
theorem wd_449 : (Jvm.Cond.selects "RungHouse$Reader" ⟨"RungHouse$Reader", "number", "(II)I"⟩ ⟨"RungHouse$Reader", "number", "(II)I"⟩ : Cond) ∈ gt := gt_of (ck_2 (i := 209) rfl) rfl
set_option maxRecDepth 20000 in
theorem wd_450 : (Jvm.Cond.code ⟨"RungHouse$Reader", "number", "(II)I"⟩ prog_6_method_8_code 4 (Option.some FieldType.int) : Cond) ∈ gt := gt_of (ck_2 (i := 210) rfl) rfl
set_option maxRecDepth 20000 in
theorem wd_451 : (Jvm.Cond.methodLink "RungHouse$Reader" 65 ⟨"RungHouse$Reader", "fail", "(II)V"⟩ : Cond) ∈ gt := gt_of (ck_2 (i := 211) rfl) rfl
set_option maxRecDepth 20000 in
theorem wd_452 : (Jvm.Cond.methodLinkNest "RungHouse$Reader" 69 ⟨"RungHouse", "isOut", "(III)Z"⟩ "RungHouse" : Cond) ∈ lw_tbl := ck_2 (i := 212) rfl
set_option maxRecDepth 20000 in
theorem wd_453 : (Jvm.Cond.stringRef "RungHouse$House" 86 "kept" : Cond) ∈ lw_tbl := ck_2 (i := 213) rfl
set_option maxRecDepth 20000 in
theorem wd_454 : (Jvm.Cond.methodLink "RungHouse$House" 87 ⟨"RungHouse$Reader", "closeClause", "()V"⟩ : Cond) ∈ gt := gt_of (ck_2 (i := 214) rfl) rfl
set_option maxRecDepth 20000 in
theorem wd_455 : (Jvm.Cond.instanceMethod ⟨"RungHouse$Reader", "closeClause", "()V"⟩ : Cond) ∈ gt := gt_of (ck_2 (i := 215) rfl) rfl
set_option maxRecDepth 20000 in
theorem wd_456 : (Jvm.Cond.selects "RungHouse$Reader" ⟨"RungHouse$Reader", "closeClause", "()V"⟩ ⟨"RungHouse$Reader", "closeClause", "()V"⟩ : Cond) ∈ gt := gt_of (ck_2 (i := 216) rfl) rfl
set_option maxRecDepth 20000 in
theorem wd_457 : (Jvm.Cond.code ⟨"RungHouse$Reader", "closeClause", "()V"⟩ prog_6_method_9_code 1 none : Cond) ∈ gt := gt_of (ck_2 (i := 217) rfl) rfl
set_option maxRecDepth 20000 in
theorem wd_458 : (Jvm.Cond.methodLink "RungHouse$House" 66 ⟨"RungHouse$House", "readStep", "(LRungHouse$Reader;I)I"⟩ : Cond) ∈ gt := gt_of (ck_2 (i := 218) rfl) rfl
set_option maxRecDepth 20000 in
theorem wd_460 : (Jvm.Cond.instanceMethod ⟨"RungHouse$House", "readStep", "(LRungHouse$Reader;I)I"⟩ : Cond) ∈ gt := gt_of (ck_2 (i := 220) rfl) rfl
set_option maxRecDepth 20000 in
theorem wd_461 : (Jvm.Cond.code ⟨"RungHouse$House", "readStep", "(LRungHouse$Reader;I)I"⟩ prog_2_method_8_code 5 (Option.some FieldType.int) : Cond) ∈ gt := gt_of (ck_2 (i := 221) rfl) rfl
set_option maxRecDepth 20000 in
theorem wd_462 : (Jvm.Cond.methodLink "RungHouse$House" 90 ⟨"RungHouse$House", "stepTold", "(LRungHouse$Reader;)I"⟩ : Cond) ∈ gt := gt_of (ck_2 (i := 222) rfl) rfl
set_option maxRecDepth 20000 in
theorem wd_463 : (Jvm.Cond.static ⟨"RungHouse$House", "stepTold", "(LRungHouse$Reader;)I"⟩ : Cond) ∈ gt := gt_of (ck_2 (i := 223) rfl) rfl
set_option maxRecDepth 20000 in
theorem wd_464 : (Jvm.Cond.code ⟨"RungHouse$House", "stepTold", "(LRungHouse$Reader;)I"⟩ prog_2_method_9_code 1 (Option.some FieldType.int) : Cond) ∈ gt := gt_of (ck_2 (i := 224) rfl) rfl
set_option maxRecDepth 20000 in
theorem wd_465 : (Jvm.Cond.stringRef "RungHouse$House" 97 "up" : Cond) ∈ lw_tbl := ck_2 (i := 225) rfl
set_option maxRecDepth 20000 in
theorem wd_466 : (Jvm.Cond.stringRef "RungHouse$House" 98 "down" : Cond) ∈ lw_tbl := ck_2 (i := 226) rfl
set_option maxRecDepth 20000 in
theorem wd_467 : (Jvm.Cond.stringRef "RungHouse$House" 99 "first" : Cond) ∈ lw_tbl := ck_2 (i := 227) rfl
set_option maxRecDepth 20000 in
theorem wd_468 : (Jvm.Cond.stringRef "RungHouse$House" 100 "enter" : Cond) ∈ lw_tbl := ck_2 (i := 228) rfl
set_option maxRecDepth 20000 in
theorem wd_469 : (Jvm.Cond.methodLink "RungHouse$House" 94 ⟨"RungHouse$House", "setStep", "(II)V"⟩ : Cond) ∈ gt := gt_of (ck_2 (i := 229) rfl) rfl
set_option maxRecDepth 20000 in
theorem wd_471 : (Jvm.Cond.instanceMethod ⟨"RungHouse$House", "setStep", "(II)V"⟩ : Cond) ∈ gt := gt_of (ck_2 (i := 231) rfl) rfl
set_option maxRecDepth 20000 in
theorem wd_472 : (Jvm.Cond.code ⟨"RungHouse$House", "setStep", "(II)V"⟩ prog_2_method_10_code 3 none : Cond) ∈ gt := gt_of (ck_2 (i := 232) rfl) rfl
set_option maxRecDepth 20000 in
theorem wd_473 : (Jvm.Cond.methodLink "RungHouse" 107 ⟨"RungHouse", "closeText", "(I)I"⟩ : Cond) ∈ gt := gt_of (ck_2 (i := 233) rfl) rfl
set_option maxRecDepth 20000 in
theorem wd_475 : (Jvm.Cond.instanceMethod ⟨"RungHouse", "closeText", "(I)I"⟩ : Cond) ∈ gt := gt_of (ck_2 (i := 235) rfl) rfl
set_option maxRecDepth 20000 in
theorem wd_476 : (Jvm.Cond.code ⟨"RungHouse", "closeText", "(I)I"⟩ prog_1_method_42_code 2 (Option.some FieldType.int) : Cond) ∈ gt := gt_of (ck_2 (i := 236) rfl) rfl
set_option maxRecDepth 20000 in
theorem wd_477 : (Jvm.Cond.methodLink "RungHouse" 111 ⟨"RungHouse$House", "copyFrom", "(LRungHouse$House;)V"⟩ : Cond) ∈ gt := gt_of (ck_2 (i := 237) rfl) rfl
set_option maxRecDepth 20000 in
theorem wd_478 : (Jvm.Cond.instanceMethod ⟨"RungHouse$House", "copyFrom", "(LRungHouse$House;)V"⟩ : Cond) ∈ gt := gt_of (ck_2 (i := 238) rfl) rfl
set_option maxRecDepth 20000 in
theorem wd_479 : (Jvm.Cond.selects "RungHouse$House" ⟨"RungHouse$House", "copyFrom", "(LRungHouse$House;)V"⟩ ⟨"RungHouse$House", "copyFrom", "(LRungHouse$House;)V"⟩ : Cond) ∈ gt := gt_of (ck_2 (i := 239) rfl) rfl
set_option maxRecDepth 20000 in
theorem wd_480 : (Jvm.Cond.code ⟨"RungHouse$House", "copyFrom", "(LRungHouse$House;)V"⟩ prog_2_method_2_code 3 none : Cond) ∈ gt := gt_of (ck_3 (i := 0) rfl) rfl
set_option maxRecDepth 20000 in
theorem wd_481 : (Jvm.Cond.methodLink "RungHouse" 115 ⟨"RungHouse$Plan", "forget", "()V"⟩ : Cond) ∈ gt := gt_of (ck_3 (i := 1) rfl) rfl
set_option maxRecDepth 20000 in
theorem wd_482 : (Jvm.Cond.instanceMethod ⟨"RungHouse$Plan", "forget", "()V"⟩ : Cond) ∈ gt := gt_of (ck_3 (i := 2) rfl) rfl
set_option maxRecDepth 20000 in
theorem wd_483 : (Jvm.Cond.selects "RungHouse$Plan" ⟨"RungHouse$Plan", "forget", "()V"⟩ ⟨"RungHouse$Plan", "forget", "()V"⟩ : Cond) ∈ gt := gt_of (ck_3 (i := 3) rfl) rfl
set_option maxRecDepth 20000 in
theorem wd_484 : (Jvm.Cond.code ⟨"RungHouse$Plan", "forget", "()V"⟩ prog_5_method_3_code 1 none : Cond) ∈ gt := gt_of (ck_3 (i := 4) rfl) rfl
set_option maxRecDepth 20000 in
theorem wd_485 : (Jvm.Cond.arrayClass FieldType.byte : Cond) ∈ gt := gt_of (ck_3 (i := 5) rfl) rfl
set_option maxRecDepth 20000 in
theorem wd_486 : (Jvm.Cond.methodLink "RungHouseLaw" 25 ⟨"RungHouse", "sort", "()I"⟩ : Cond) ∈ gt := gt_of (ck_3 (i := 6) rfl) rfl
set_option maxRecDepth 20000 in
theorem wd_487 : (Jvm.Cond.instanceMethod ⟨"RungHouse", "sort", "()I"⟩ : Cond) ∈ gt := gt_of (ck_3 (i := 7) rfl) rfl
set_option maxRecDepth 20000 in
theorem wd_488 : (Jvm.Cond.selects "RungHouse" ⟨"RungHouse", "sort", "()I"⟩ ⟨"RungHouse", "sort", "()I"⟩ : Cond) ∈ gt := gt_of (ck_3 (i := 8) rfl) rfl
set_option maxRecDepth 20000 in
theorem wd_489 : (Jvm.Cond.code ⟨"RungHouse", "sort", "()I"⟩ prog_1_method_4_code 2 (Option.some FieldType.int) : Cond) ∈ gt := gt_of (ck_3 (i := 9) rfl) rfl
set_option maxRecDepth 20000 in
theorem wd_490 : (Jvm.Cond.constant "RungHouse" 118 (-1000000003 : Int32) : Cond) ∈ gt := gt_of (ck_3 (i := 10) rfl) rfl
set_option maxRecDepth 20000 in
theorem wd_491 : (Jvm.Cond.methodLink "RungHouse" 119 ⟨"RungHouse$Sort", "readFrom", "(LRungHouse$Reader;)V"⟩ : Cond) ∈ gt := gt_of (ck_3 (i := 11) rfl) rfl
set_option maxRecDepth 20000 in
theorem wd_492 : (Jvm.Cond.instanceMethod ⟨"RungHouse$Sort", "readFrom", "(LRungHouse$Reader;)V"⟩ : Cond) ∈ gt := gt_of (ck_3 (i := 12) rfl) rfl
set_option maxRecDepth 20000 in
theorem wd_493 : (Jvm.Cond.selects "RungHouse$Sort" ⟨"RungHouse$Sort", "readFrom", "(LRungHouse$Reader;)V"⟩ ⟨"RungHouse$Sort", "readFrom", "(LRungHouse$Reader;)V"⟩ : Cond) ∈ gt := gt_of (ck_3 (i := 13) rfl) rfl
set_option maxRecDepth 20000 in
theorem wd_494 : (Jvm.Cond.code ⟨"RungHouse$Sort", "readFrom", "(LRungHouse$Reader;)V"⟩ prog_8_method_4_code 3 none : Cond) ∈ gt := gt_of (ck_3 (i := 14) rfl) rfl
set_option maxRecDepth 20000 in
theorem wd_495 : (Jvm.Cond.methodLink "RungHouse$Sort" 38 ⟨"RungHouse$Reader", "open", "()V"⟩ : Cond) ∈ gt := gt_of (ck_3 (i := 15) rfl) rfl
set_option maxRecDepth 20000 in
theorem wd_496 : (Jvm.Cond.methodLink "RungHouse$Sort" 43 ⟨"RungHouse$Reader", "goesOn", "()Z"⟩ : Cond) ∈ gt := gt_of (ck_3 (i := 16) rfl) rfl
set_option maxRecDepth 20000 in
theorem wd_497 : (Jvm.Cond.stringRef "RungHouse$Sort" 47 "scrape" : Cond) ∈ lw_tbl := ck_3 (i := 17) rfl
set_option maxRecDepth 20000 in
theorem wd_498 : (Jvm.Cond.methodLink "RungHouse$Sort" 49 ⟨"RungHouse$Reader", "isWord", "(Ljava/lang/String;)Z"⟩ : Cond) ∈ gt := gt_of (ck_3 (i := 18) rfl) rfl
set_option maxRecDepth 20000 in
theorem wd_499 : (Jvm.Cond.methodLink "RungHouse$Sort" 53 ⟨"RungHouse$Sort", "readScrape", "(LRungHouse$Reader;)V"⟩ : Cond) ∈ gt := gt_of (ck_3 (i := 19) rfl) rfl
set_option maxRecDepth 20000 in
theorem wd_501 : (Jvm.Cond.instanceMethod ⟨"RungHouse$Sort", "readScrape", "(LRungHouse$Reader;)V"⟩ : Cond) ∈ gt := gt_of (ck_3 (i := 21) rfl) rfl
set_option maxRecDepth 20000 in
theorem wd_502 : (Jvm.Cond.code ⟨"RungHouse$Sort", "readScrape", "(LRungHouse$Reader;)V"⟩ prog_8_method_5_code 3 none : Cond) ∈ gt := gt_of (ck_3 (i := 22) rfl) rfl
set_option maxRecDepth 20000 in
theorem wd_503 : (Jvm.Cond.methodLink "RungHouse$Sort" 65 ⟨"RungHouse$Reader", "fail", "(II)V"⟩ : Cond) ∈ gt := gt_of (ck_3 (i := 23) rfl) rfl
set_option maxRecDepth 20000 in
theorem wd_504 : (Jvm.Cond.methodLink "RungHouse$Sort" 75 ⟨"RungHouse$Reader", "step", "()V"⟩ : Cond) ∈ gt := gt_of (ck_3 (i := 24) rfl) rfl
set_option maxRecDepth 20000 in
theorem wd_505 : (Jvm.Cond.methodLink "RungHouse$Sort" 78 ⟨"RungHouse$Reader", "number", "(II)I"⟩ : Cond) ∈ gt := gt_of (ck_3 (i := 25) rfl) rfl
set_option maxRecDepth 20000 in
theorem wd_506 : (Jvm.Cond.methodLink "RungHouse$Sort" 82 ⟨"RungHouse$Reader", "closeClause", "()V"⟩ : Cond) ∈ gt := gt_of (ck_3 (i := 26) rfl) rfl
set_option maxRecDepth 20000 in
theorem wd_507 : (Jvm.Cond.stringRef "RungHouse$Sort" 57 "pains" : Cond) ∈ lw_tbl := ck_3 (i := 27) rfl
set_option maxRecDepth 20000 in
theorem wd_508 : (Jvm.Cond.methodLink "RungHouse$Sort" 59 ⟨"RungHouse$Sort", "readPains", "(LRungHouse$Reader;)V"⟩ : Cond) ∈ gt := gt_of (ck_3 (i := 28) rfl) rfl
set_option maxRecDepth 20000 in
theorem wd_510 : (Jvm.Cond.instanceMethod ⟨"RungHouse$Sort", "readPains", "(LRungHouse$Reader;)V"⟩ : Cond) ∈ gt := gt_of (ck_3 (i := 30) rfl) rfl
set_option maxRecDepth 20000 in
theorem wd_511 : (Jvm.Cond.code ⟨"RungHouse$Sort", "readPains", "(LRungHouse$Reader;)V"⟩ prog_8_method_6_code 2 none : Cond) ∈ gt := gt_of (ck_3 (i := 31) rfl) rfl
set_option maxRecDepth 20000 in
theorem wd_512 : (Jvm.Cond.methodLink "RungHouse$Sort" 72 ⟨"RungHouse$Sort", "spare", "()V"⟩ : Cond) ∈ gt := gt_of (ck_3 (i := 32) rfl) rfl
set_option maxRecDepth 20000 in
theorem wd_514 : (Jvm.Cond.instanceMethod ⟨"RungHouse$Sort", "spare", "()V"⟩ : Cond) ∈ gt := gt_of (ck_3 (i := 34) rfl) rfl
set_option maxRecDepth 20000 in
theorem wd_515 : (Jvm.Cond.code ⟨"RungHouse$Sort", "spare", "()V"⟩ prog_8_method_7_code 2 none : Cond) ∈ gt := gt_of (ck_3 (i := 35) rfl) rfl
set_option maxRecDepth 20000 in
theorem wd_516 : (Jvm.Cond.methodLink "RungHouseLaw" 30 ⟨"RungHouse", "rule", "()I"⟩ : Cond) ∈ gt := gt_of (ck_3 (i := 36) rfl) rfl
set_option maxRecDepth 20000 in
theorem wd_517 : (Jvm.Cond.instanceMethod ⟨"RungHouse", "rule", "()I"⟩ : Cond) ∈ gt := gt_of (ck_3 (i := 37) rfl) rfl
set_option maxRecDepth 20000 in
theorem wd_518 : (Jvm.Cond.selects "RungHouse" ⟨"RungHouse", "rule", "()I"⟩ ⟨"RungHouse", "rule", "()I"⟩ : Cond) ∈ gt := gt_of (ck_3 (i := 38) rfl) rfl
set_option maxRecDepth 20000 in
theorem wd_519 : (Jvm.Cond.code ⟨"RungHouse", "rule", "()I"⟩ prog_1_method_5_code 2 (Option.some FieldType.int) : Cond) ∈ gt := gt_of (ck_3 (i := 39) rfl) rfl
set_option maxRecDepth 20000 in
theorem wd_520 : (Jvm.Cond.methodLink "RungHouse" 120 ⟨"RungHouse$Rule", "readFrom", "(LRungHouse$Reader;)V"⟩ : Cond) ∈ gt := gt_of (ck_3 (i := 40) rfl) rfl
set_option maxRecDepth 20000 in
theorem wd_521 : (Jvm.Cond.instanceMethod ⟨"RungHouse$Rule", "readFrom", "(LRungHouse$Reader;)V"⟩ : Cond) ∈ gt := gt_of (ck_3 (i := 41) rfl) rfl
set_option maxRecDepth 20000 in
theorem wd_522 : (Jvm.Cond.selects "RungHouse$Rule" ⟨"RungHouse$Rule", "readFrom", "(LRungHouse$Reader;)V"⟩ ⟨"RungHouse$Rule", "readFrom", "(LRungHouse$Reader;)V"⟩ : Cond) ∈ gt := gt_of (ck_3 (i := 42) rfl) rfl
set_option maxRecDepth 20000 in
theorem wd_523 : (Jvm.Cond.code ⟨"RungHouse$Rule", "readFrom", "(LRungHouse$Reader;)V"⟩ prog_7_method_3_code 3 none : Cond) ∈ gt := gt_of (ck_3 (i := 43) rfl) rfl
set_option maxRecDepth 20000 in
theorem wd_524 : (Jvm.Cond.methodLink "RungHouse$Rule" 31 ⟨"RungHouse$Reader", "open", "()V"⟩ : Cond) ∈ gt := gt_of (ck_3 (i := 44) rfl) rfl
set_option maxRecDepth 20000 in
theorem wd_525 : (Jvm.Cond.methodLink "RungHouse$Rule" 36 ⟨"RungHouse$Reader", "goesOn", "()Z"⟩ : Cond) ∈ gt := gt_of (ck_3 (i := 45) rfl) rfl
set_option maxRecDepth 20000 in
theorem wd_526 : (Jvm.Cond.stringRef "RungHouse$Rule" 40 "bar" : Cond) ∈ lw_tbl := ck_3 (i := 46) rfl
set_option maxRecDepth 20000 in
theorem wd_527 : (Jvm.Cond.methodLink "RungHouse$Rule" 42 ⟨"RungHouse$Reader", "isWord", "(Ljava/lang/String;)Z"⟩ : Cond) ∈ gt := gt_of (ck_3 (i := 47) rfl) rfl
set_option maxRecDepth 20000 in
theorem wd_528 : (Jvm.Cond.methodLink "RungHouse$Rule" 49 ⟨"RungHouse$Reader", "fail", "(II)V"⟩ : Cond) ∈ gt := gt_of (ck_3 (i := 48) rfl) rfl
set_option maxRecDepth 20000 in
theorem wd_529 : (Jvm.Cond.methodLink "RungHouse$Rule" 53 ⟨"RungHouse$Rule", "readBar", "(LRungHouse$Reader;)V"⟩ : Cond) ∈ gt := gt_of (ck_3 (i := 49) rfl) rfl
set_option maxRecDepth 20000 in
theorem wd_531 : (Jvm.Cond.instanceMethod ⟨"RungHouse$Rule", "readBar", "(LRungHouse$Reader;)V"⟩ : Cond) ∈ gt := gt_of (ck_3 (i := 51) rfl) rfl
set_option maxRecDepth 20000 in
theorem wd_532 : (Jvm.Cond.code ⟨"RungHouse$Rule", "readBar", "(LRungHouse$Reader;)V"⟩ prog_7_method_4_code 2 none : Cond) ∈ gt := gt_of (ck_3 (i := 52) rfl) rfl
set_option maxRecDepth 20000 in
theorem wd_533 : (Jvm.Cond.methodLink "RungHouse$Rule" 57 ⟨"RungHouse$Reader", "step", "()V"⟩ : Cond) ∈ gt := gt_of (ck_3 (i := 53) rfl) rfl
set_option maxRecDepth 20000 in
theorem wd_534 : (Jvm.Cond.methodLink "RungHouse$Rule" 60 ⟨"RungHouse$Reader", "number", "(II)I"⟩ : Cond) ∈ gt := gt_of (ck_3 (i := 54) rfl) rfl
set_option maxRecDepth 20000 in
theorem wd_535 : (Jvm.Cond.stringRef "RungHouse$Rule" 64 "rungs" : Cond) ∈ lw_tbl := ck_3 (i := 55) rfl
set_option maxRecDepth 20000 in
theorem wd_536 : (Jvm.Cond.stringRef "RungHouse$Rule" 66 "months" : Cond) ∈ lw_tbl := ck_3 (i := 56) rfl
set_option maxRecDepth 20000 in
theorem wd_537 : (Jvm.Cond.methodLink "RungHouse$Rule" 68 ⟨"RungHouse$Reader", "closeClause", "()V"⟩ : Cond) ∈ gt := gt_of (ck_3 (i := 57) rfl) rfl
set_option maxRecDepth 20000 in
theorem wd_538 : (Jvm.Cond.methodLink "RungHouseLaw" 34 ⟨"RungHouse", "fault", "()I"⟩ : Cond) ∈ gt := gt_of (ck_3 (i := 58) rfl) rfl
set_option maxRecDepth 20000 in
theorem wd_539 : (Jvm.Cond.instanceMethod ⟨"RungHouse", "fault", "()I"⟩ : Cond) ∈ gt := gt_of (ck_3 (i := 59) rfl) rfl
set_option maxRecDepth 20000 in
theorem wd_540 : (Jvm.Cond.selects "RungHouse" ⟨"RungHouse", "fault", "()I"⟩ ⟨"RungHouse", "fault", "()I"⟩ : Cond) ∈ gt := gt_of (ck_3 (i := 60) rfl) rfl
set_option maxRecDepth 20000 in
theorem wd_541 : (Jvm.Cond.code ⟨"RungHouse", "fault", "()I"⟩ prog_1_method_6_code 1 (Option.some FieldType.int) : Cond) ∈ gt := gt_of (ck_3 (i := 61) rfl) rfl
set_option maxRecDepth 20000 in
theorem wd_542 : (Jvm.Cond.methodLink "RungHouseLaw" 38 ⟨"RungHouse", "told", "(II)I"⟩ : Cond) ∈ gt := gt_of (ck_3 (i := 62) rfl) rfl
set_option maxRecDepth 20000 in
theorem wd_543 : (Jvm.Cond.instanceMethod ⟨"RungHouse", "told", "(II)I"⟩ : Cond) ∈ gt := gt_of (ck_3 (i := 63) rfl) rfl
set_option maxRecDepth 20000 in
theorem wd_544 : (Jvm.Cond.selects "RungHouse" ⟨"RungHouse", "told", "(II)I"⟩ ⟨"RungHouse", "told", "(II)I"⟩ : Cond) ∈ gt := gt_of (ck_3 (i := 64) rfl) rfl
set_option maxRecDepth 20000 in
theorem wd_545 : (Jvm.Cond.code ⟨"RungHouse", "told", "(II)I"⟩ prog_1_method_7_code 3 (Option.some FieldType.int) : Cond) ∈ gt := gt_of (ck_3 (i := 65) rfl) rfl
set_option maxRecDepth 20000 in
theorem wd_546 : (Jvm.Cond.methodLink "RungHouse" 121 ⟨"RungHouse", "isHouse", "(I)Z"⟩ : Cond) ∈ gt := gt_of (ck_3 (i := 66) rfl) rfl
set_option maxRecDepth 20000 in
theorem wd_548 : (Jvm.Cond.instanceMethod ⟨"RungHouse", "isHouse", "(I)Z"⟩ : Cond) ∈ gt := gt_of (ck_3 (i := 68) rfl) rfl
set_option maxRecDepth 20000 in
theorem wd_549 : (Jvm.Cond.code ⟨"RungHouse", "isHouse", "(I)Z"⟩ prog_1_method_37_code 2 (Option.some FieldType.boolean) : Cond) ∈ gt := gt_of (ck_3 (i := 69) rfl) rfl
set_option maxRecDepth 20000 in
theorem wd_550 : (Jvm.Cond.methodLink "RungHouseLaw" 43 ⟨"RungHouse", "pays", "(II)I"⟩ : Cond) ∈ gt := gt_of (ck_3 (i := 70) rfl) rfl
set_option maxRecDepth 20000 in
theorem wd_551 : (Jvm.Cond.instanceMethod ⟨"RungHouse", "pays", "(II)I"⟩ : Cond) ∈ gt := gt_of (ck_3 (i := 71) rfl) rfl
set_option maxRecDepth 20000 in
theorem wd_552 : (Jvm.Cond.selects "RungHouse" ⟨"RungHouse", "pays", "(II)I"⟩ ⟨"RungHouse", "pays", "(II)I"⟩ : Cond) ∈ gt := gt_of (ck_3 (i := 72) rfl) rfl
set_option maxRecDepth 20000 in
theorem wd_553 : (Jvm.Cond.code ⟨"RungHouse", "pays", "(II)I"⟩ prog_1_method_8_code 3 (Option.some FieldType.int) : Cond) ∈ gt := gt_of (ck_3 (i := 73) rfl) rfl
set_option maxRecDepth 20000 in
theorem wd_554 : (Jvm.Cond.methodLink "RungHouse" 140 ⟨"RungHouse", "isRung", "(II)Z"⟩ : Cond) ∈ gt := gt_of (ck_3 (i := 74) rfl) rfl
set_option maxRecDepth 20000 in
theorem wd_556 : (Jvm.Cond.instanceMethod ⟨"RungHouse", "isRung", "(II)Z"⟩ : Cond) ∈ gt := gt_of (ck_3 (i := 76) rfl) rfl
set_option maxRecDepth 20000 in
theorem wd_557 : (Jvm.Cond.code ⟨"RungHouse", "isRung", "(II)Z"⟩ prog_1_method_38_code 3 (Option.some FieldType.boolean) : Cond) ∈ gt := gt_of (ck_3 (i := 77) rfl) rfl
set_option maxRecDepth 20000 in
theorem wd_558 : (Jvm.Cond.methodLink "RungHouseLaw" 47 ⟨"RungHouse", "next", "(III)I"⟩ : Cond) ∈ gt := gt_of (ck_3 (i := 78) rfl) rfl
set_option maxRecDepth 20000 in
theorem wd_559 : (Jvm.Cond.instanceMethod ⟨"RungHouse", "next", "(III)I"⟩ : Cond) ∈ gt := gt_of (ck_3 (i := 79) rfl) rfl
set_option maxRecDepth 20000 in
theorem wd_560 : (Jvm.Cond.selects "RungHouse" ⟨"RungHouse", "next", "(III)I"⟩ ⟨"RungHouse", "next", "(III)I"⟩ : Cond) ∈ gt := gt_of (ck_3 (i := 80) rfl) rfl
set_option maxRecDepth 20000 in
theorem wd_561 : (Jvm.Cond.code ⟨"RungHouse", "next", "(III)I"⟩ prog_1_method_9_code 4 (Option.some FieldType.int) : Cond) ∈ gt := gt_of (ck_3 (i := 81) rfl) rfl
set_option maxRecDepth 20000 in
theorem wd_562 : (Jvm.Cond.methodLink "RungHouse" 148 ⟨"RungHouse$House", "rungAfter", "(II)I"⟩ : Cond) ∈ gt := gt_of (ck_3 (i := 82) rfl) rfl
set_option maxRecDepth 20000 in
theorem wd_563 : (Jvm.Cond.instanceMethod ⟨"RungHouse$House", "rungAfter", "(II)I"⟩ : Cond) ∈ gt := gt_of (ck_3 (i := 83) rfl) rfl
set_option maxRecDepth 20000 in
theorem wd_564 : (Jvm.Cond.selects "RungHouse$House" ⟨"RungHouse$House", "rungAfter", "(II)I"⟩ ⟨"RungHouse$House", "rungAfter", "(II)I"⟩ : Cond) ∈ gt := gt_of (ck_3 (i := 84) rfl) rfl
set_option maxRecDepth 20000 in
theorem wd_565 : (Jvm.Cond.code ⟨"RungHouse$House", "rungAfter", "(II)I"⟩ prog_2_method_5_code 3 (Option.some FieldType.int) : Cond) ∈ gt := gt_of (ck_3 (i := 85) rfl) rfl
set_option maxRecDepth 20000 in
theorem wd_566 : (Jvm.Cond.methodLink "RungHouse$House" 34 ⟨"java/lang/Math", "min", "(II)I"⟩ : Cond) ∈ gt := gt_of (ck_3 (i := 86) rfl) rfl
set_option maxRecDepth 20000 in
theorem wd_567 : (Jvm.Cond.static ⟨"java/lang/Math", "min", "(II)I"⟩ : Cond) ∈ gt := gt_of (ck_3 (i := 87) rfl) rfl
set_option maxRecDepth 20000 in
theorem wd_568 : (Jvm.Cond.code ⟨"java/lang/Math", "min", "(II)I"⟩ prog_11_method_69_code 2 (Option.some FieldType.int) : Cond) ∈ gt := gt_of (ck_3 (i := 88) rfl) rfl
set_option maxRecDepth 20000 in
theorem wd_569 : (Jvm.Cond.methodLink "RungHouse$House" 40 ⟨"RungHouse$House", "isKept", "(I)Z"⟩ : Cond) ∈ gt := gt_of (ck_3 (i := 89) rfl) rfl
set_option maxRecDepth 20000 in
theorem wd_570 : (Jvm.Cond.instanceMethod ⟨"RungHouse$House", "isKept", "(I)Z"⟩ : Cond) ∈ gt := gt_of (ck_3 (i := 90) rfl) rfl
set_option maxRecDepth 20000 in
theorem wd_571 : (Jvm.Cond.selects "RungHouse$House" ⟨"RungHouse$House", "isKept", "(I)Z"⟩ ⟨"RungHouse$House", "isKept", "(I)Z"⟩ : Cond) ∈ gt := gt_of (ck_3 (i := 91) rfl) rfl
set_option maxRecDepth 20000 in
theorem wd_572 : (Jvm.Cond.code ⟨"RungHouse$House", "isKept", "(I)Z"⟩ prog_2_method_3_code 2 (Option.some FieldType.boolean) : Cond) ∈ gt := gt_of (ck_3 (i := 92) rfl) rfl
set_option maxRecDepth 20000 in
theorem wd_573 : (Jvm.Cond.methodLink "RungHouse$House" 44 ⟨"java/lang/Math", "max", "(II)I"⟩ : Cond) ∈ gt := gt_of (ck_3 (i := 93) rfl) rfl
set_option maxRecDepth 20000 in
theorem wd_574 : (Jvm.Cond.static ⟨"java/lang/Math", "max", "(II)I"⟩ : Cond) ∈ gt := gt_of (ck_3 (i := 94) rfl) rfl
set_option maxRecDepth 20000 in
theorem wd_575 : (Jvm.Cond.code ⟨"java/lang/Math", "max", "(II)I"⟩ prog_11_method_65_code 2 (Option.some FieldType.int) : Cond) ∈ gt := gt_of (ck_3 (i := 95) rfl) rfl
set_option maxRecDepth 20000 in
theorem wd_576 : (Jvm.Cond.methodLink "RungHouseLaw" 52 ⟨"RungHouse", "scrapes", "(II)I"⟩ : Cond) ∈ gt := gt_of (ck_3 (i := 96) rfl) rfl
set_option maxRecDepth 20000 in
theorem wd_577 : (Jvm.Cond.instanceMethod ⟨"RungHouse", "scrapes", "(II)I"⟩ : Cond) ∈ gt := gt_of (ck_3 (i := 97) rfl) rfl
set_option maxRecDepth 20000 in
theorem wd_578 : (Jvm.Cond.selects "RungHouse" ⟨"RungHouse", "scrapes", "(II)I"⟩ ⟨"RungHouse", "scrapes", "(II)I"⟩ : Cond) ∈ gt := gt_of (ck_3 (i := 98) rfl) rfl
set_option maxRecDepth 20000 in
theorem wd_579 : (Jvm.Cond.code ⟨"RungHouse", "scrapes", "(II)I"⟩ prog_1_method_10_code 5 (Option.some FieldType.int) : Cond) ∈ gt := gt_of (ck_3 (i := 99) rfl) rfl
set_option maxRecDepth 20000 in
theorem wd_580 : (Jvm.Cond.methodLink "RungHouse" 152 ⟨"RungHouse", "isSort", "(I)Z"⟩ : Cond) ∈ gt := gt_of (ck_3 (i := 100) rfl) rfl
set_option maxRecDepth 20000 in
theorem wd_582 : (Jvm.Cond.instanceMethod ⟨"RungHouse", "isSort", "(I)Z"⟩ : Cond) ∈ gt := gt_of (ck_3 (i := 102) rfl) rfl
set_option maxRecDepth 20000 in
theorem wd_583 : (Jvm.Cond.code ⟨"RungHouse", "isSort", "(I)Z"⟩ prog_1_method_39_code 2 (Option.some FieldType.boolean) : Cond) ∈ gt := gt_of (ck_3 (i := 103) rfl) rfl
set_option maxRecDepth 20000 in
theorem wd_584 : (Jvm.Cond.methodLink "RungHouseLaw" 56 ⟨"RungHouse", "cost", "(IIIII)I"⟩ : Cond) ∈ gt := gt_of (ck_3 (i := 104) rfl) rfl
set_option maxRecDepth 20000 in
theorem wd_585 : (Jvm.Cond.instanceMethod ⟨"RungHouse", "cost", "(IIIII)I"⟩ : Cond) ∈ gt := gt_of (ck_3 (i := 105) rfl) rfl
set_option maxRecDepth 20000 in
theorem wd_586 : (Jvm.Cond.selects "RungHouse" ⟨"RungHouse", "cost", "(IIIII)I"⟩ ⟨"RungHouse", "cost", "(IIIII)I"⟩ : Cond) ∈ gt := gt_of (ck_3 (i := 106) rfl) rfl
set_option maxRecDepth 20000 in
theorem wd_587 : (Jvm.Cond.code ⟨"RungHouse", "cost", "(IIIII)I"⟩ prog_1_method_11_code 6 (Option.some FieldType.int) : Cond) ∈ gt := gt_of (ck_3 (i := 107) rfl) rfl
set_option maxRecDepth 20000 in
theorem wd_588 : (Jvm.Cond.methodLink "RungHouse" 177 ⟨"RungHouse", "planOf", "(III)LRungHouse$Plan;"⟩ : Cond) ∈ gt := gt_of (ck_3 (i := 108) rfl) rfl
set_option maxRecDepth 20000 in
theorem wd_590 : (Jvm.Cond.instanceMethod ⟨"RungHouse", "planOf", "(III)LRungHouse$Plan;"⟩ : Cond) ∈ gt := gt_of (ck_3 (i := 110) rfl) rfl
set_option maxRecDepth 20000 in
theorem wd_591 : (Jvm.Cond.code ⟨"RungHouse", "planOf", "(III)LRungHouse$Plan;"⟩ prog_1_method_43_code 5 (Option.some (FieldType.object "RungHouse$Plan")) : Cond) ∈ gt := gt_of (ck_3 (i := 111) rfl) rfl
set_option maxRecDepth 20000 in
theorem wd_592 : (Jvm.Cond.methodLink "RungHouse" 207 ⟨"RungHouse$Plan", "know", "(I)V"⟩ : Cond) ∈ gt := gt_of (ck_3 (i := 112) rfl) rfl
set_option maxRecDepth 20000 in
theorem wd_593 : (Jvm.Cond.instanceMethod ⟨"RungHouse$Plan", "know", "(I)V"⟩ : Cond) ∈ gt := gt_of (ck_3 (i := 113) rfl) rfl
set_option maxRecDepth 20000 in
theorem wd_594 : (Jvm.Cond.selects "RungHouse$Plan" ⟨"RungHouse$Plan", "know", "(I)V"⟩ ⟨"RungHouse$Plan", "know", "(I)V"⟩ : Cond) ∈ gt := gt_of (ck_3 (i := 114) rfl) rfl
set_option maxRecDepth 20000 in
theorem wd_595 : (Jvm.Cond.code ⟨"RungHouse$Plan", "know", "(I)V"⟩ prog_5_method_4_code 4 none : Cond) ∈ gt := gt_of (ck_3 (i := 115) rfl) rfl
set_option maxRecDepth 20000 in
theorem wd_596 : (Jvm.Cond.methodLink "RungHouse$Plan" 60 ⟨"RungHouse$Plan", "reckonCost", "(II)V"⟩ : Cond) ∈ gt := gt_of (ck_3 (i := 116) rfl) rfl
set_option maxRecDepth 20000 in
theorem wd_598 : (Jvm.Cond.instanceMethod ⟨"RungHouse$Plan", "reckonCost", "(II)V"⟩ : Cond) ∈ gt := gt_of (ck_3 (i := 118) rfl) rfl
set_option maxRecDepth 20000 in
theorem wd_599 : (Jvm.Cond.code ⟨"RungHouse$Plan", "reckonCost", "(II)V"⟩ prog_5_method_13_code 6 none : Cond) ∈ gt := gt_of (ck_3 (i := 119) rfl) rfl
set_option maxRecDepth 20000 in
theorem wd_600 : (Jvm.Cond.methodLink "RungHouse$Plan" 94 ⟨"RungHouse$Plan", "openYear", "(IIZ)V"⟩ : Cond) ∈ gt := gt_of (ck_3 (i := 120) rfl) rfl
set_option maxRecDepth 20000 in
theorem wd_601 : (Jvm.Cond.instanceMethod ⟨"RungHouse$Plan", "openYear", "(IIZ)V"⟩ : Cond) ∈ gt := gt_of (ck_3 (i := 121) rfl) rfl
set_option maxRecDepth 20000 in
theorem wd_602 : (Jvm.Cond.selects "RungHouse$Plan" ⟨"RungHouse$Plan", "openYear", "(IIZ)V"⟩ ⟨"RungHouse$Plan", "openYear", "(IIZ)V"⟩ : Cond) ∈ gt := gt_of (ck_3 (i := 122) rfl) rfl
set_option maxRecDepth 20000 in
theorem wd_603 : (Jvm.Cond.code ⟨"RungHouse$Plan", "openYear", "(IIZ)V"⟩ prog_5_method_7_code 6 none : Cond) ∈ gt := gt_of (ck_3 (i := 123) rfl) rfl
set_option maxRecDepth 20000 in
theorem wd_604 : (Jvm.Cond.methodLink "RungHouse$Plan" 70 ⟨"RungHouse$Plan", "sumScrapes", "(Z)V"⟩ : Cond) ∈ gt := gt_of (ck_3 (i := 124) rfl) rfl
set_option maxRecDepth 20000 in
theorem wd_606 : (Jvm.Cond.instanceMethod ⟨"RungHouse$Plan", "sumScrapes", "(Z)V"⟩ : Cond) ∈ gt := gt_of (ck_3 (i := 126) rfl) rfl
set_option maxRecDepth 20000 in
theorem wd_607 : (Jvm.Cond.code ⟨"RungHouse$Plan", "sumScrapes", "(Z)V"⟩ prog_5_method_14_code 5 none : Cond) ∈ gt := gt_of (ck_3 (i := 127) rfl) rfl
set_option maxRecDepth 20000 in
theorem wd_608 : (Jvm.Cond.methodLink "RungHouse$Plan" 107 ⟨"RungHouse$Sort", "chance", "(IZ)I"⟩ : Cond) ∈ gt := gt_of (ck_3 (i := 128) rfl) rfl
set_option maxRecDepth 20000 in
theorem wd_609 : (Jvm.Cond.instanceMethod ⟨"RungHouse$Sort", "chance", "(IZ)I"⟩ : Cond) ∈ gt := gt_of (ck_3 (i := 129) rfl) rfl
set_option maxRecDepth 20000 in
theorem wd_610 : (Jvm.Cond.selects "RungHouse$Sort" ⟨"RungHouse$Sort", "chance", "(IZ)I"⟩ ⟨"RungHouse$Sort", "chance", "(IZ)I"⟩ : Cond) ∈ gt := gt_of (ck_3 (i := 130) rfl) rfl
set_option maxRecDepth 20000 in
theorem wd_611 : (Jvm.Cond.code ⟨"RungHouse$Sort", "chance", "(IZ)I"⟩ prog_8_method_2_code 3 (Option.some FieldType.int) : Cond) ∈ gt := gt_of (ck_3 (i := 131) rfl) rfl
set_option maxRecDepth 20000 in
theorem wd_612 : (Jvm.Cond.methodLink "RungHouse$Plan" 81 ⟨"RungHouse$House", "bears", "(I)I"⟩ : Cond) ∈ gt := gt_of (ck_3 (i := 132) rfl) rfl
set_option maxRecDepth 20000 in
theorem wd_613 : (Jvm.Cond.instanceMethod ⟨"RungHouse$House", "bears", "(I)I"⟩ : Cond) ∈ gt := gt_of (ck_3 (i := 133) rfl) rfl
set_option maxRecDepth 20000 in
theorem wd_614 : (Jvm.Cond.selects "RungHouse$House" ⟨"RungHouse$House", "bears", "(I)I"⟩ ⟨"RungHouse$House", "bears", "(I)I"⟩ : Cond) ∈ gt := gt_of (ck_3 (i := 134) rfl) rfl
set_option maxRecDepth 20000 in
theorem wd_615 : (Jvm.Cond.code ⟨"RungHouse$House", "bears", "(I)I"⟩ prog_2_method_4_code 2 (Option.some FieldType.int) : Cond) ∈ gt := gt_of (ck_3 (i := 135) rfl) rfl
set_option maxRecDepth 20000 in
theorem wd_616 : (Jvm.Cond.methodLink "RungHouse$Plan" 74 ⟨"RungHouse$House", "rungAfter", "(II)I"⟩ : Cond) ∈ gt := gt_of (ck_3 (i := 136) rfl) rfl
set_option maxRecDepth 20000 in
theorem wd_617 : (Jvm.Cond.methodLink "RungHouse$Plan" 78 ⟨"RungHouse$Plan", "reckonMonth", "(II)V"⟩ : Cond) ∈ gt := gt_of (ck_3 (i := 137) rfl) rfl
set_option maxRecDepth 20000 in
theorem wd_619 : (Jvm.Cond.instanceMethod ⟨"RungHouse$Plan", "reckonMonth", "(II)V"⟩ : Cond) ∈ gt := gt_of (ck_3 (i := 139) rfl) rfl
set_option maxRecDepth 20000 in
theorem wd_620 : (Jvm.Cond.code ⟨"RungHouse$Plan", "reckonMonth", "(II)V"⟩ prog_5_method_16_code 7 none : Cond) ∈ gt := gt_of (ck_3 (i := 140) rfl) rfl
set_option maxRecDepth 20000 in
theorem wd_621 : (Jvm.Cond.methodLink "RungHouse$Plan" 85 ⟨"RungHouse$Plan", "costsLater", "(II)I"⟩ : Cond) ∈ gt := gt_of (ck_3 (i := 141) rfl) rfl
set_option maxRecDepth 20000 in
theorem wd_623 : (Jvm.Cond.instanceMethod ⟨"RungHouse$Plan", "costsLater", "(II)I"⟩ : Cond) ∈ gt := gt_of (ck_3 (i := 143) rfl) rfl
set_option maxRecDepth 20000 in
theorem wd_624 : (Jvm.Cond.code ⟨"RungHouse$Plan", "costsLater", "(II)I"⟩ prog_5_method_15_code 3 (Option.some FieldType.int) : Cond) ∈ gt := gt_of (ck_3 (i := 144) rfl) rfl
set_option maxRecDepth 20000 in
theorem wd_625 : (Jvm.Cond.methodLink "RungHouse$Plan" 111 ⟨"RungHouse$Rule", "barOn", "(II)I"⟩ : Cond) ∈ gt := gt_of (ck_3 (i := 145) rfl) rfl
set_option maxRecDepth 20000 in
theorem wd_626 : (Jvm.Cond.instanceMethod ⟨"RungHouse$Rule", "barOn", "(II)I"⟩ : Cond) ∈ gt := gt_of (ck_3 (i := 146) rfl) rfl
set_option maxRecDepth 20000 in
theorem wd_627 : (Jvm.Cond.selects "RungHouse$Rule" ⟨"RungHouse$Rule", "barOn", "(II)I"⟩ ⟨"RungHouse$Rule", "barOn", "(II)I"⟩ : Cond) ∈ gt := gt_of (ck_3 (i := 147) rfl) rfl
set_option maxRecDepth 20000 in
theorem wd_628 : (Jvm.Cond.code ⟨"RungHouse$Rule", "barOn", "(II)I"⟩ prog_7_method_2_code 5 (Option.some FieldType.int) : Cond) ∈ gt := gt_of (ck_3 (i := 148) rfl) rfl
set_option maxRecDepth 20000 in
theorem wd_629 : (Jvm.Cond.methodLink "RungHouse$Plan" 98 ⟨"RungHouse$Plan", "inside", "(II)I"⟩ : Cond) ∈ gt := gt_of (ck_3 (i := 149) rfl) rfl
set_option maxRecDepth 20000 in
theorem wd_630 : (Jvm.Cond.instanceMethod ⟨"RungHouse$Plan", "inside", "(II)I"⟩ : Cond) ∈ gt := gt_of (ck_3 (i := 150) rfl) rfl
set_option maxRecDepth 20000 in
theorem wd_631 : (Jvm.Cond.selects "RungHouse$Plan" ⟨"RungHouse$Plan", "inside", "(II)I"⟩ ⟨"RungHouse$Plan", "inside", "(II)I"⟩ : Cond) ∈ gt := gt_of (ck_3 (i := 151) rfl) rfl
set_option maxRecDepth 20000 in
theorem wd_632 : (Jvm.Cond.code ⟨"RungHouse$Plan", "inside", "(II)I"⟩ prog_5_method_8_code 3 (Option.some FieldType.int) : Cond) ∈ gt := gt_of (ck_3 (i := 152) rfl) rfl
set_option maxRecDepth 20000 in
theorem wd_633 : (Jvm.Cond.constantLong "RungHouse$Plan" 116 (1000 : Int64) : Cond) ∈ gt := gt_of (ck_3 (i := 153) rfl) rfl
set_option maxRecDepth 20000 in
theorem wd_634 : (Jvm.Cond.methodLink "RungHouse" 181 ⟨"RungHouse$Plan", "costWith", "(II)I"⟩ : Cond) ∈ gt := gt_of (ck_3 (i := 154) rfl) rfl
set_option maxRecDepth 20000 in
theorem wd_635 : (Jvm.Cond.instanceMethod ⟨"RungHouse$Plan", "costWith", "(II)I"⟩ : Cond) ∈ gt := gt_of (ck_3 (i := 155) rfl) rfl
set_option maxRecDepth 20000 in
theorem wd_636 : (Jvm.Cond.selects "RungHouse$Plan" ⟨"RungHouse$Plan", "costWith", "(II)I"⟩ ⟨"RungHouse$Plan", "costWith", "(II)I"⟩ : Cond) ∈ gt := gt_of (ck_3 (i := 156) rfl) rfl
set_option maxRecDepth 20000 in
theorem wd_637 : (Jvm.Cond.code ⟨"RungHouse$Plan", "costWith", "(II)I"⟩ prog_5_method_5_code 3 (Option.some FieldType.int) : Cond) ∈ gt := gt_of (ck_3 (i := 157) rfl) rfl
set_option maxRecDepth 20000 in
theorem wd_638 : (Jvm.Cond.methodLink "RungHouseLaw" 61 ⟨"RungHouse", "in", "(IIIIIIIZ)I"⟩ : Cond) ∈ gt := gt_of (ck_3 (i := 158) rfl) rfl
set_option maxRecDepth 20000 in
theorem wd_639 : (Jvm.Cond.instanceMethod ⟨"RungHouse", "in", "(IIIIIIIZ)I"⟩ : Cond) ∈ gt := gt_of (ck_3 (i := 159) rfl) rfl
set_option maxRecDepth 20000 in
theorem wd_640 : (Jvm.Cond.selects "RungHouse" ⟨"RungHouse", "in", "(IIIIIIIZ)I"⟩ ⟨"RungHouse", "in", "(IIIIIIIZ)I"⟩ : Cond) ∈ gt := gt_of (ck_3 (i := 160) rfl) rfl
set_option maxRecDepth 20000 in
theorem wd_641 : (Jvm.Cond.code ⟨"RungHouse", "in", "(IIIIIIIZ)I"⟩ prog_1_method_12_code 10 (Option.some FieldType.int) : Cond) ∈ gt := gt_of (ck_3 (i := 161) rfl) rfl
set_option maxRecDepth 20000 in
theorem wd_642 : (Jvm.Cond.methodLink "RungHouse" 184 ⟨"RungHouse", "isNoYear", "(II)Z"⟩ : Cond) ∈ gt := gt_of (ck_3 (i := 162) rfl) rfl
set_option maxRecDepth 20000 in
theorem wd_643 : (Jvm.Cond.static ⟨"RungHouse", "isNoYear", "(II)Z"⟩ : Cond) ∈ gt := gt_of (ck_3 (i := 163) rfl) rfl
set_option maxRecDepth 20000 in
theorem wd_644 : (Jvm.Cond.code ⟨"RungHouse", "isNoYear", "(II)Z"⟩ prog_1_method_35_code 2 (Option.some FieldType.boolean) : Cond) ∈ gt := gt_of (ck_3 (i := 164) rfl) rfl
set_option maxRecDepth 20000 in
theorem wd_645 : (Jvm.Cond.methodLink "RungHouse" 187 ⟨"RungHouse$Plan", "openYear", "(IIZ)V"⟩ : Cond) ∈ gt := gt_of (ck_3 (i := 165) rfl) rfl
set_option maxRecDepth 20000 in
theorem wd_646 : (Jvm.Cond.methodLink "RungHouse" 191 ⟨"RungHouse$Plan", "inside", "(II)I"⟩ : Cond) ∈ gt := gt_of (ck_3 (i := 166) rfl) rfl
set_option maxRecDepth 20000 in
theorem wd_647 : (Jvm.Cond.methodLink "RungHouseLaw" 66 ⟨"RungHouse", "takes", "(IIIII)I"⟩ : Cond) ∈ gt := gt_of (ck_3 (i := 167) rfl) rfl
set_option maxRecDepth 20000 in
theorem wd_648 : (Jvm.Cond.instanceMethod ⟨"RungHouse", "takes", "(IIIII)I"⟩ : Cond) ∈ gt := gt_of (ck_3 (i := 168) rfl) rfl
set_option maxRecDepth 20000 in
theorem wd_649 : (Jvm.Cond.selects "RungHouse" ⟨"RungHouse", "takes", "(IIIII)I"⟩ ⟨"RungHouse", "takes", "(IIIII)I"⟩ : Cond) ∈ gt := gt_of (ck_3 (i := 169) rfl) rfl
set_option maxRecDepth 20000 in
theorem wd_650 : (Jvm.Cond.code ⟨"RungHouse", "takes", "(IIIII)I"⟩ prog_1_method_13_code 6 (Option.some FieldType.int) : Cond) ∈ gt := gt_of (ck_3 (i := 170) rfl) rfl
set_option maxRecDepth 20000 in
theorem wd_651 : (Jvm.Cond.methodLink "RungHouse" 194 ⟨"RungHouse$Plan", "isPained", "(II)Z"⟩ : Cond) ∈ gt := gt_of (ck_3 (i := 171) rfl) rfl
set_option maxRecDepth 20000 in
theorem wd_652 : (Jvm.Cond.instanceMethod ⟨"RungHouse$Plan", "isPained", "(II)Z"⟩ : Cond) ∈ gt := gt_of (ck_3 (i := 172) rfl) rfl
set_option maxRecDepth 20000 in
theorem wd_653 : (Jvm.Cond.selects "RungHouse$Plan" ⟨"RungHouse$Plan", "isPained", "(II)Z"⟩ ⟨"RungHouse$Plan", "isPained", "(II)Z"⟩ : Cond) ∈ gt := gt_of (ck_3 (i := 173) rfl) rfl
set_option maxRecDepth 20000 in
theorem wd_654 : (Jvm.Cond.code ⟨"RungHouse$Plan", "isPained", "(II)Z"⟩ prog_5_method_6_code 3 (Option.some FieldType.boolean) : Cond) ∈ gt := gt_of (ck_3 (i := 174) rfl) rfl
set_option maxRecDepth 20000 in
theorem wd_655 : (Jvm.Cond.methodLink "RungHouseLaw" 70 ⟨"RungHouse", "bar", "(IIIIIIIZ)I"⟩ : Cond) ∈ gt := gt_of (ck_3 (i := 175) rfl) rfl
set_option maxRecDepth 20000 in
theorem wd_656 : (Jvm.Cond.instanceMethod ⟨"RungHouse", "bar", "(IIIIIIIZ)I"⟩ : Cond) ∈ gt := gt_of (ck_3 (i := 176) rfl) rfl
set_option maxRecDepth 20000 in
theorem wd_657 : (Jvm.Cond.selects "RungHouse" ⟨"RungHouse", "bar", "(IIIIIIIZ)I"⟩ ⟨"RungHouse", "bar", "(IIIIIIIZ)I"⟩ : Cond) ∈ gt := gt_of (ck_3 (i := 177) rfl) rfl
set_option maxRecDepth 20000 in
theorem wd_658 : (Jvm.Cond.code ⟨"RungHouse", "bar", "(IIIIIIIZ)I"⟩ prog_1_method_14_code 10 (Option.some FieldType.int) : Cond) ∈ gt := gt_of (ck_3 (i := 178) rfl) rfl
set_option maxRecDepth 20000 in
theorem wd_659 : (Jvm.Cond.methodLink "RungHouse" 197 ⟨"RungHouse$Plan", "leastAsked", "(II)I"⟩ : Cond) ∈ gt := gt_of (ck_3 (i := 179) rfl) rfl
set_option maxRecDepth 20000 in
theorem wd_660 : (Jvm.Cond.instanceMethod ⟨"RungHouse$Plan", "leastAsked", "(II)I"⟩ : Cond) ∈ gt := gt_of (ck_3 (i := 180) rfl) rfl
set_option maxRecDepth 20000 in
theorem wd_661 : (Jvm.Cond.selects "RungHouse$Plan" ⟨"RungHouse$Plan", "leastAsked", "(II)I"⟩ ⟨"RungHouse$Plan", "leastAsked", "(II)I"⟩ : Cond) ∈ gt := gt_of (ck_3 (i := 181) rfl) rfl
set_option maxRecDepth 20000 in
theorem wd_662 : (Jvm.Cond.code ⟨"RungHouse$Plan", "leastAsked", "(II)I"⟩ prog_5_method_10_code 4 (Option.some FieldType.int) : Cond) ∈ gt := gt_of (ck_3 (i := 182) rfl) rfl
set_option maxRecDepth 20000 in
theorem wd_663 : (Jvm.Cond.methodLink "RungHouseLaw" 74 ⟨"RungHouse", "fixed", "(IIIIII)I"⟩ : Cond) ∈ gt := gt_of (ck_3 (i := 183) rfl) rfl
set_option maxRecDepth 20000 in
theorem wd_664 : (Jvm.Cond.instanceMethod ⟨"RungHouse", "fixed", "(IIIIII)I"⟩ : Cond) ∈ gt := gt_of (ck_3 (i := 184) rfl) rfl
set_option maxRecDepth 20000 in
theorem wd_665 : (Jvm.Cond.selects "RungHouse" ⟨"RungHouse", "fixed", "(IIIIII)I"⟩ ⟨"RungHouse", "fixed", "(IIIIII)I"⟩ : Cond) ∈ gt := gt_of (ck_3 (i := 185) rfl) rfl
set_option maxRecDepth 20000 in
theorem wd_666 : (Jvm.Cond.code ⟨"RungHouse", "fixed", "(IIIIII)I"⟩ prog_1_method_15_code 7 (Option.some FieldType.int) : Cond) ∈ gt := gt_of (ck_3 (i := 186) rfl) rfl
set_option maxRecDepth 20000 in
theorem wd_667 : (Jvm.Cond.methodLink "RungHouse" 200 ⟨"RungHouse", "isRule", "(I)Z"⟩ : Cond) ∈ gt := gt_of (ck_3 (i := 187) rfl) rfl
set_option maxRecDepth 20000 in
theorem wd_669 : (Jvm.Cond.instanceMethod ⟨"RungHouse", "isRule", "(I)Z"⟩ : Cond) ∈ gt := gt_of (ck_3 (i := 189) rfl) rfl
set_option maxRecDepth 20000 in
theorem wd_670 : (Jvm.Cond.code ⟨"RungHouse", "isRule", "(I)Z"⟩ prog_1_method_40_code 2 (Option.some FieldType.boolean) : Cond) ∈ gt := gt_of (ck_3 (i := 190) rfl) rfl
set_option maxRecDepth 20000 in
theorem wd_671 : (Jvm.Cond.methodLink "RungHouse" 203 ⟨"RungHouse$Plan", "begin", "(LRungHouse$Sort;LRungHouse$House;LRungHouse$Rule;)V"⟩ : Cond) ∈ gt := gt_of (ck_3 (i := 191) rfl) rfl
set_option maxRecDepth 20000 in
theorem wd_672 : (Jvm.Cond.instanceMethod ⟨"RungHouse$Plan", "begin", "(LRungHouse$Sort;LRungHouse$House;LRungHouse$Rule;)V"⟩ : Cond) ∈ gt := gt_of (ck_3 (i := 192) rfl) rfl
set_option maxRecDepth 20000 in
theorem wd_673 : (Jvm.Cond.selects "RungHouse$Plan" ⟨"RungHouse$Plan", "begin", "(LRungHouse$Sort;LRungHouse$House;LRungHouse$Rule;)V"⟩ ⟨"RungHouse$Plan", "begin", "(LRungHouse$Sort;LRungHouse$House;LRungHouse$Rule;)V"⟩ : Cond) ∈ gt := gt_of (ck_3 (i := 193) rfl) rfl
set_option maxRecDepth 20000 in
theorem wd_674 : (Jvm.Cond.code ⟨"RungHouse$Plan", "begin", "(LRungHouse$Sort;LRungHouse$House;LRungHouse$Rule;)V"⟩ prog_5_method_2_code 4 none : Cond) ∈ gt := gt_of (ck_3 (i := 194) rfl) rfl
set_option maxRecDepth 20000 in
theorem wd_675 : (Jvm.Cond.methodLink "RungHouseLaw" 79 ⟨"RungHouse", "scrape", "(IIZ)I"⟩ : Cond) ∈ gt := gt_of (ck_3 (i := 195) rfl) rfl
set_option maxRecDepth 20000 in
theorem wd_676 : (Jvm.Cond.instanceMethod ⟨"RungHouse", "scrape", "(IIZ)I"⟩ : Cond) ∈ gt := gt_of (ck_3 (i := 196) rfl) rfl
set_option maxRecDepth 20000 in
theorem wd_677 : (Jvm.Cond.selects "RungHouse" ⟨"RungHouse", "scrape", "(IIZ)I"⟩ ⟨"RungHouse", "scrape", "(IIZ)I"⟩ : Cond) ∈ gt := gt_of (ck_3 (i := 197) rfl) rfl
set_option maxRecDepth 20000 in
theorem wd_678 : (Jvm.Cond.code ⟨"RungHouse", "scrape", "(IIZ)I"⟩ prog_1_method_16_code 4 (Option.some FieldType.int) : Cond) ∈ gt := gt_of (ck_3 (i := 198) rfl) rfl
set_option maxRecDepth 20000 in
theorem wd_679 : (Jvm.Cond.methodLink "RungHouse" 210 ⟨"RungHouse$Memory", "rises", "(I)Z"⟩ : Cond) ∈ gt := gt_of (ck_3 (i := 199) rfl) rfl
set_option maxRecDepth 20000 in
theorem wd_680 : (Jvm.Cond.instanceMethod ⟨"RungHouse$Memory", "rises", "(I)Z"⟩ : Cond) ∈ gt := gt_of (ck_3 (i := 200) rfl) rfl
set_option maxRecDepth 20000 in
theorem wd_681 : (Jvm.Cond.selects "RungHouse$Memory" ⟨"RungHouse$Memory", "rises", "(I)Z"⟩ ⟨"RungHouse$Memory", "rises", "(I)Z"⟩ : Cond) ∈ gt := gt_of (ck_3 (i := 201) rfl) rfl
set_option maxRecDepth 20000 in
theorem wd_682 : (Jvm.Cond.code ⟨"RungHouse$Memory", "rises", "(I)Z"⟩ prog_4_method_2_code 2 (Option.some FieldType.boolean) : Cond) ∈ gt := gt_of (ck_3 (i := 202) rfl) rfl
set_option maxRecDepth 20000 in
theorem wd_683 : (Jvm.Cond.methodLink "RungHouse" 213 ⟨"RungHouse$Memory", "addScrape", "(IIZ)V"⟩ : Cond) ∈ gt := gt_of (ck_3 (i := 203) rfl) rfl
set_option maxRecDepth 20000 in
theorem wd_684 : (Jvm.Cond.instanceMethod ⟨"RungHouse$Memory", "addScrape", "(IIZ)V"⟩ : Cond) ∈ gt := gt_of (ck_3 (i := 204) rfl) rfl
set_option maxRecDepth 20000 in
theorem wd_685 : (Jvm.Cond.selects "RungHouse$Memory" ⟨"RungHouse$Memory", "addScrape", "(IIZ)V"⟩ ⟨"RungHouse$Memory", "addScrape", "(IIZ)V"⟩ : Cond) ∈ gt := gt_of (ck_3 (i := 205) rfl) rfl
set_option maxRecDepth 20000 in
theorem wd_686 : (Jvm.Cond.code ⟨"RungHouse$Memory", "addScrape", "(IIZ)V"⟩ prog_4_method_3_code 4 none : Cond) ∈ gt := gt_of (ck_3 (i := 206) rfl) rfl
set_option maxRecDepth 20000 in
theorem wd_687 : (Jvm.Cond.methodLink "RungHouseLaw" 84 ⟨"RungHouse", "judge", "(IIIII)I"⟩ : Cond) ∈ gt := gt_of (ck_3 (i := 207) rfl) rfl
set_option maxRecDepth 20000 in
theorem wd_688 : (Jvm.Cond.instanceMethod ⟨"RungHouse", "judge", "(IIIII)I"⟩ : Cond) ∈ gt := gt_of (ck_3 (i := 208) rfl) rfl
set_option maxRecDepth 20000 in
theorem wd_689 : (Jvm.Cond.selects "RungHouse" ⟨"RungHouse", "judge", "(IIIII)I"⟩ ⟨"RungHouse", "judge", "(IIIII)I"⟩ : Cond) ∈ gt := gt_of (ck_3 (i := 209) rfl) rfl
set_option maxRecDepth 20000 in
theorem wd_690 : (Jvm.Cond.code ⟨"RungHouse", "judge", "(IIIII)I"⟩ prog_1_method_17_code 9 (Option.some FieldType.int) : Cond) ∈ gt := gt_of (ck_3 (i := 210) rfl) rfl
set_option maxRecDepth 20000 in
theorem wd_691 : (Jvm.Cond.methodLink "RungHouse" 223 ⟨"RungHouse$Plan", "isAsked", "(III)Z"⟩ : Cond) ∈ gt := gt_of (ck_3 (i := 211) rfl) rfl
set_option maxRecDepth 20000 in
theorem wd_692 : (Jvm.Cond.instanceMethod ⟨"RungHouse$Plan", "isAsked", "(III)Z"⟩ : Cond) ∈ gt := gt_of (ck_3 (i := 212) rfl) rfl
set_option maxRecDepth 20000 in
theorem wd_693 : (Jvm.Cond.selects "RungHouse$Plan" ⟨"RungHouse$Plan", "isAsked", "(III)Z"⟩ ⟨"RungHouse$Plan", "isAsked", "(III)Z"⟩ : Cond) ∈ gt := gt_of (ck_3 (i := 213) rfl) rfl
set_option maxRecDepth 20000 in
theorem wd_694 : (Jvm.Cond.code ⟨"RungHouse$Plan", "isAsked", "(III)Z"⟩ prog_5_method_9_code 4 (Option.some FieldType.boolean) : Cond) ∈ gt := gt_of (ck_3 (i := 214) rfl) rfl
set_option maxRecDepth 20000 in
theorem wd_695 : (Jvm.Cond.methodLink "RungHouse" 230 ⟨"RungHouse", "oneMore", "(I)I"⟩ : Cond) ∈ gt := gt_of (ck_3 (i := 215) rfl) rfl
set_option maxRecDepth 20000 in
theorem wd_696 : (Jvm.Cond.static ⟨"RungHouse", "oneMore", "(I)I"⟩ : Cond) ∈ gt := gt_of (ck_3 (i := 216) rfl) rfl
set_option maxRecDepth 20000 in
theorem wd_697 : (Jvm.Cond.code ⟨"RungHouse", "oneMore", "(I)I"⟩ prog_1_method_36_code 1 (Option.some FieldType.int) : Cond) ∈ gt := gt_of (ck_3 (i := 217) rfl) rfl
set_option maxRecDepth 20000 in
theorem wd_698 : (Jvm.Cond.methodLink "RungHouseLaw" 88 ⟨"RungHouse", "standing", "(IIIIII)I"⟩ : Cond) ∈ gt := gt_of (ck_3 (i := 218) rfl) rfl
set_option maxRecDepth 20000 in
theorem wd_699 : (Jvm.Cond.instanceMethod ⟨"RungHouse", "standing", "(IIIIII)I"⟩ : Cond) ∈ gt := gt_of (ck_3 (i := 219) rfl) rfl
set_option maxRecDepth 20000 in
theorem wd_700 : (Jvm.Cond.selects "RungHouse" ⟨"RungHouse", "standing", "(IIIIII)I"⟩ ⟨"RungHouse", "standing", "(IIIIII)I"⟩ : Cond) ∈ gt := gt_of (ck_3 (i := 220) rfl) rfl
set_option maxRecDepth 20000 in
theorem wd_701 : (Jvm.Cond.code ⟨"RungHouse", "standing", "(IIIIII)I"⟩ prog_1_method_18_code 7 (Option.some FieldType.int) : Cond) ∈ gt := gt_of (ck_3 (i := 221) rfl) rfl
set_option maxRecDepth 20000 in
theorem wd_702 : (Jvm.Cond.methodLink "RungHouse" 233 ⟨"RungHouse", "isWay", "(I)Z"⟩ : Cond) ∈ gt := gt_of (ck_3 (i := 222) rfl) rfl
set_option maxRecDepth 20000 in
theorem wd_704 : (Jvm.Cond.instanceMethod ⟨"RungHouse", "isWay", "(I)Z"⟩ : Cond) ∈ gt := gt_of (ck_3 (i := 224) rfl) rfl
set_option maxRecDepth 20000 in
theorem wd_705 : (Jvm.Cond.code ⟨"RungHouse", "isWay", "(I)Z"⟩ prog_1_method_41_code 2 (Option.some FieldType.boolean) : Cond) ∈ gt := gt_of (ck_3 (i := 225) rfl) rfl
set_option maxRecDepth 20000 in
theorem wd_706 : (Jvm.Cond.methodLink "RungHouse" 236 ⟨"RungHouse", "wayOf", "(IIII)LRungHouse$Plan;"⟩ : Cond) ∈ gt := gt_of (ck_3 (i := 226) rfl) rfl
set_option maxRecDepth 20000 in
theorem wd_708 : (Jvm.Cond.instanceMethod ⟨"RungHouse", "wayOf", "(IIII)LRungHouse$Plan;"⟩ : Cond) ∈ gt := gt_of (ck_3 (i := 228) rfl) rfl
set_option maxRecDepth 20000 in
theorem wd_709 : (Jvm.Cond.code ⟨"RungHouse", "wayOf", "(IIII)LRungHouse$Plan;"⟩ prog_1_method_44_code 5 (Option.some (FieldType.object "RungHouse$Plan")) : Cond) ∈ gt := gt_of (ck_3 (i := 229) rfl) rfl
set_option maxRecDepth 20000 in
theorem wd_710 : (Jvm.Cond.methodLink "RungHouse" 240 ⟨"RungHouse$LongRun", "reckon", "(LRungHouse$Plan;I)V"⟩ : Cond) ∈ gt := gt_of (ck_3 (i := 230) rfl) rfl
set_option maxRecDepth 20000 in
theorem wd_711 : (Jvm.Cond.instanceMethod ⟨"RungHouse$LongRun", "reckon", "(LRungHouse$Plan;I)V"⟩ : Cond) ∈ gt := gt_of (ck_3 (i := 231) rfl) rfl
set_option maxRecDepth 20000 in
theorem wd_712 : (Jvm.Cond.selects "RungHouse$LongRun" ⟨"RungHouse$LongRun", "reckon", "(LRungHouse$Plan;I)V"⟩ ⟨"RungHouse$LongRun", "reckon", "(LRungHouse$Plan;I)V"⟩ : Cond) ∈ gt := gt_of (ck_3 (i := 232) rfl) rfl
set_option maxRecDepth 20000 in
theorem wd_713 : (Jvm.Cond.code ⟨"RungHouse$LongRun", "reckon", "(LRungHouse$Plan;I)V"⟩ prog_3_method_2_code 4 none : Cond) ∈ gt := gt_of (ck_3 (i := 233) rfl) rfl
set_option maxRecDepth 20000 in
theorem wd_714 : (Jvm.Cond.methodLink "RungHouse$LongRun" 39 ⟨"RungHouse$LongRun", "reckonRung", "(LRungHouse$Plan;II)V"⟩ : Cond) ∈ gt := gt_of (ck_3 (i := 234) rfl) rfl
set_option maxRecDepth 20000 in
theorem wd_715 : (Jvm.Cond.instanceMethod ⟨"RungHouse$LongRun", "reckonRung", "(LRungHouse$Plan;II)V"⟩ : Cond) ∈ gt := gt_of (ck_3 (i := 235) rfl) rfl
set_option maxRecDepth 20000 in
theorem wd_716 : (Jvm.Cond.selects "RungHouse$LongRun" ⟨"RungHouse$LongRun", "reckonRung", "(LRungHouse$Plan;II)V"⟩ ⟨"RungHouse$LongRun", "reckonRung", "(LRungHouse$Plan;II)V"⟩ : Cond) ∈ gt := gt_of (ck_3 (i := 236) rfl) rfl
set_option maxRecDepth 20000 in
theorem wd_717 : (Jvm.Cond.code ⟨"RungHouse$LongRun", "reckonRung", "(LRungHouse$Plan;II)V"⟩ prog_3_method_3_code 5 none : Cond) ∈ gt := gt_of (ck_3 (i := 237) rfl) rfl
set_option maxRecDepth 20000 in
theorem wd_718 : (Jvm.Cond.methodLink "RungHouse$LongRun" 47 ⟨"RungHouse$Plan", "isPained", "(II)Z"⟩ : Cond) ∈ gt := gt_of (ck_3 (i := 238) rfl) rfl
set_option maxRecDepth 20000 in
theorem wd_719 : (Jvm.Cond.methodLink "RungHouse$LongRun" 51 ⟨"RungHouse$Plan", "openYear", "(IIZ)V"⟩ : Cond) ∈ gt := gt_of (ck_3 (i := 239) rfl) rfl
set_option maxRecDepth 20000 in
theorem wd_720 : (Jvm.Cond.constant "RungHouse$LongRun" 55 (1000000 : Int32) : Cond) ∈ gt := gt_of (ck_4 (i := 0) rfl) rfl
set_option maxRecDepth 20000 in
theorem wd_721 : (Jvm.Cond.methodLink "RungHouse$LongRun" 56 ⟨"RungHouse$LongRun", "passMonth", "(LRungHouse$Plan;I)I"⟩ : Cond) ∈ gt := gt_of (ck_4 (i := 1) rfl) rfl
set_option maxRecDepth 20000 in
theorem wd_723 : (Jvm.Cond.instanceMethod ⟨"RungHouse$LongRun", "passMonth", "(LRungHouse$Plan;I)I"⟩ : Cond) ∈ gt := gt_of (ck_4 (i := 3) rfl) rfl
set_option maxRecDepth 20000 in
theorem wd_724 : (Jvm.Cond.code ⟨"RungHouse$LongRun", "passMonth", "(LRungHouse$Plan;I)I"⟩ prog_3_method_8_code 6 (Option.some FieldType.int) : Cond) ∈ gt := gt_of (ck_4 (i := 4) rfl) rfl
set_option maxRecDepth 20000 in
theorem wd_725 : (Jvm.Cond.methodLink "RungHouse$LongRun" 74 ⟨"RungHouse$Plan", "houseBears", "(II)I"⟩ : Cond) ∈ gt := gt_of (ck_4 (i := 5) rfl) rfl
set_option maxRecDepth 20000 in
theorem wd_726 : (Jvm.Cond.instanceMethod ⟨"RungHouse$Plan", "houseBears", "(II)I"⟩ : Cond) ∈ gt := gt_of (ck_4 (i := 6) rfl) rfl
set_option maxRecDepth 20000 in
theorem wd_727 : (Jvm.Cond.selects "RungHouse$Plan" ⟨"RungHouse$Plan", "houseBears", "(II)I"⟩ ⟨"RungHouse$Plan", "houseBears", "(II)I"⟩ : Cond) ∈ gt := gt_of (ck_4 (i := 7) rfl) rfl
set_option maxRecDepth 20000 in
theorem wd_728 : (Jvm.Cond.code ⟨"RungHouse$Plan", "houseBears", "(II)I"⟩ prog_5_method_12_code 3 (Option.some FieldType.int) : Cond) ∈ gt := gt_of (ck_4 (i := 8) rfl) rfl
set_option maxRecDepth 20000 in
theorem wd_729 : (Jvm.Cond.constantLong "RungHouse$LongRun" 72 (1000000 : Int64) : Cond) ∈ gt := gt_of (ck_4 (i := 9) rfl) rfl
set_option maxRecDepth 20000 in
theorem wd_730 : (Jvm.Cond.methodLink "RungHouse$LongRun" 78 ⟨"RungHouse$Plan", "chanceAsked", "(II)I"⟩ : Cond) ∈ gt := gt_of (ck_4 (i := 10) rfl) rfl
set_option maxRecDepth 20000 in
theorem wd_731 : (Jvm.Cond.instanceMethod ⟨"RungHouse$Plan", "chanceAsked", "(II)I"⟩ : Cond) ∈ gt := gt_of (ck_4 (i := 11) rfl) rfl
set_option maxRecDepth 20000 in
theorem wd_732 : (Jvm.Cond.selects "RungHouse$Plan" ⟨"RungHouse$Plan", "chanceAsked", "(II)I"⟩ ⟨"RungHouse$Plan", "chanceAsked", "(II)I"⟩ : Cond) ∈ gt := gt_of (ck_4 (i := 12) rfl) rfl
set_option maxRecDepth 20000 in
theorem wd_733 : (Jvm.Cond.code ⟨"RungHouse$Plan", "chanceAsked", "(II)I"⟩ prog_5_method_11_code 3 (Option.some FieldType.int) : Cond) ∈ gt := gt_of (ck_4 (i := 13) rfl) rfl
set_option maxRecDepth 20000 in
theorem wd_734 : (Jvm.Cond.constantLong "RungHouse$LongRun" 70 (1000 : Int64) : Cond) ∈ gt := gt_of (ck_4 (i := 14) rfl) rfl
set_option maxRecDepth 20000 in
theorem wd_735 : (Jvm.Cond.methodLinkNest "RungHouse$LongRun" 81 ⟨"RungHouse", "oneMore", "(I)I"⟩ "RungHouse" : Cond) ∈ lw_tbl := ck_4 (i := 15) rfl
set_option maxRecDepth 20000 in
theorem wd_736 : (Jvm.Cond.methodLink "RungHouse" 244 ⟨"RungHouse$LongRun", "goTo", "(LRungHouse$House;I)V"⟩ : Cond) ∈ gt := gt_of (ck_4 (i := 16) rfl) rfl
set_option maxRecDepth 20000 in
theorem wd_737 : (Jvm.Cond.instanceMethod ⟨"RungHouse$LongRun", "goTo", "(LRungHouse$House;I)V"⟩ : Cond) ∈ gt := gt_of (ck_4 (i := 17) rfl) rfl
set_option maxRecDepth 20000 in
theorem wd_738 : (Jvm.Cond.selects "RungHouse$LongRun" ⟨"RungHouse$LongRun", "goTo", "(LRungHouse$House;I)V"⟩ ⟨"RungHouse$LongRun", "goTo", "(LRungHouse$House;I)V"⟩ : Cond) ∈ gt := gt_of (ck_4 (i := 18) rfl) rfl
set_option maxRecDepth 20000 in
theorem wd_739 : (Jvm.Cond.code ⟨"RungHouse$LongRun", "goTo", "(LRungHouse$House;I)V"⟩ prog_3_method_5_code 4 none : Cond) ∈ gt := gt_of (ck_4 (i := 19) rfl) rfl
set_option maxRecDepth 20000 in
theorem wd_740 : (Jvm.Cond.methodLink "RungHouse$LongRun" 63 ⟨"RungHouse$LongRun", "passYear", "(LRungHouse$House;)V"⟩ : Cond) ∈ gt := gt_of (ck_4 (i := 20) rfl) rfl
set_option maxRecDepth 20000 in
theorem wd_742 : (Jvm.Cond.instanceMethod ⟨"RungHouse$LongRun", "passYear", "(LRungHouse$House;)V"⟩ : Cond) ∈ gt := gt_of (ck_4 (i := 22) rfl) rfl
set_option maxRecDepth 20000 in
theorem wd_743 : (Jvm.Cond.code ⟨"RungHouse$LongRun", "passYear", "(LRungHouse$House;)V"⟩ prog_3_method_9_code 6 none : Cond) ∈ gt := gt_of (ck_4 (i := 23) rfl) rfl
set_option maxRecDepth 20000 in
theorem wd_744 : (Jvm.Cond.methodLink "RungHouse$LongRun" 85 ⟨"RungHouse$LongRun", "oddsOf", "(II)I"⟩ : Cond) ∈ gt := gt_of (ck_4 (i := 24) rfl) rfl
set_option maxRecDepth 20000 in
theorem wd_745 : (Jvm.Cond.instanceMethod ⟨"RungHouse$LongRun", "oddsOf", "(II)I"⟩ : Cond) ∈ gt := gt_of (ck_4 (i := 25) rfl) rfl
set_option maxRecDepth 20000 in
theorem wd_746 : (Jvm.Cond.selects "RungHouse$LongRun" ⟨"RungHouse$LongRun", "oddsOf", "(II)I"⟩ ⟨"RungHouse$LongRun", "oddsOf", "(II)I"⟩ : Cond) ∈ gt := gt_of (ck_4 (i := 26) rfl) rfl
set_option maxRecDepth 20000 in
theorem wd_747 : (Jvm.Cond.code ⟨"RungHouse$LongRun", "oddsOf", "(II)I"⟩ prog_3_method_4_code 3 (Option.some FieldType.int) : Cond) ∈ gt := gt_of (ck_4 (i := 27) rfl) rfl
set_option maxRecDepth 20000 in
theorem wd_748 : (Jvm.Cond.methodLink "RungHouse$LongRun" 88 ⟨"RungHouse$House", "rungAfter", "(II)I"⟩ : Cond) ∈ gt := gt_of (ck_4 (i := 28) rfl) rfl
set_option maxRecDepth 20000 in
theorem wd_749 : (Jvm.Cond.methodLink "RungHouseLaw" 92 ⟨"RungHouse", "odds", "(IIIIII)I"⟩ : Cond) ∈ gt := gt_of (ck_4 (i := 29) rfl) rfl
set_option maxRecDepth 20000 in
theorem wd_750 : (Jvm.Cond.instanceMethod ⟨"RungHouse", "odds", "(IIIIII)I"⟩ : Cond) ∈ gt := gt_of (ck_4 (i := 30) rfl) rfl
set_option maxRecDepth 20000 in
theorem wd_751 : (Jvm.Cond.selects "RungHouse" ⟨"RungHouse", "odds", "(IIIIII)I"⟩ ⟨"RungHouse", "odds", "(IIIIII)I"⟩ : Cond) ∈ gt := gt_of (ck_4 (i := 31) rfl) rfl
set_option maxRecDepth 20000 in
theorem wd_752 : (Jvm.Cond.code ⟨"RungHouse", "odds", "(IIIIII)I"⟩ prog_1_method_19_code 7 (Option.some FieldType.int) : Cond) ∈ gt := gt_of (ck_4 (i := 32) rfl) rfl
set_option maxRecDepth 20000 in
theorem wd_753 : (Jvm.Cond.methodLink "RungHouse" 251 ⟨"RungHouse$LongRun", "reckonRung", "(LRungHouse$Plan;II)V"⟩ : Cond) ∈ gt := gt_of (ck_4 (i := 33) rfl) rfl
set_option maxRecDepth 20000 in
theorem wd_754 : (Jvm.Cond.methodLink "RungHouse" 255 ⟨"RungHouse$LongRun", "oddsOf", "(II)I"⟩ : Cond) ∈ gt := gt_of (ck_4 (i := 34) rfl) rfl
set_option maxRecDepth 20000 in
theorem wd_755 : (Jvm.Cond.methodLink "RungHouseLaw" 96 ⟨"RungHouse", "even", "(IIIIII)I"⟩ : Cond) ∈ gt := gt_of (ck_4 (i := 35) rfl) rfl
set_option maxRecDepth 20000 in
theorem wd_756 : (Jvm.Cond.instanceMethod ⟨"RungHouse", "even", "(IIIIII)I"⟩ : Cond) ∈ gt := gt_of (ck_4 (i := 36) rfl) rfl
set_option maxRecDepth 20000 in
theorem wd_757 : (Jvm.Cond.selects "RungHouse" ⟨"RungHouse", "even", "(IIIIII)I"⟩ ⟨"RungHouse", "even", "(IIIIII)I"⟩ : Cond) ∈ gt := gt_of (ck_4 (i := 37) rfl) rfl
set_option maxRecDepth 20000 in
theorem wd_758 : (Jvm.Cond.code ⟨"RungHouse", "even", "(IIIIII)I"⟩ prog_1_method_20_code 9 (Option.some FieldType.int) : Cond) ∈ gt := gt_of (ck_4 (i := 38) rfl) rfl
set_option maxRecDepth 20000 in
theorem wd_759 : (Jvm.Cond.methodLink "RungHouse" 258 ⟨"RungHouse$LongRun", "paid", "(LRungHouse$House;)I"⟩ : Cond) ∈ gt := gt_of (ck_4 (i := 39) rfl) rfl
set_option maxRecDepth 20000 in
theorem wd_760 : (Jvm.Cond.instanceMethod ⟨"RungHouse$LongRun", "paid", "(LRungHouse$House;)I"⟩ : Cond) ∈ gt := gt_of (ck_4 (i := 40) rfl) rfl
set_option maxRecDepth 20000 in
theorem wd_761 : (Jvm.Cond.selects "RungHouse$LongRun" ⟨"RungHouse$LongRun", "paid", "(LRungHouse$House;)I"⟩ ⟨"RungHouse$LongRun", "paid", "(LRungHouse$House;)I"⟩ : Cond) ∈ gt := gt_of (ck_4 (i := 41) rfl) rfl
set_option maxRecDepth 20000 in
theorem wd_762 : (Jvm.Cond.code ⟨"RungHouse$LongRun", "paid", "(LRungHouse$House;)I"⟩ prog_3_method_6_code 4 (Option.some FieldType.int) : Cond) ∈ gt := gt_of (ck_4 (i := 42) rfl) rfl
set_option maxRecDepth 20000 in
theorem wd_763 : (Jvm.Cond.methodLink "RungHouse" 262 ⟨"RungHouse$LongRun", "askedFor", "()I"⟩ : Cond) ∈ gt := gt_of (ck_4 (i := 43) rfl) rfl
set_option maxRecDepth 20000 in
theorem wd_764 : (Jvm.Cond.instanceMethod ⟨"RungHouse$LongRun", "askedFor", "()I"⟩ : Cond) ∈ gt := gt_of (ck_4 (i := 44) rfl) rfl
set_option maxRecDepth 20000 in
theorem wd_765 : (Jvm.Cond.selects "RungHouse$LongRun" ⟨"RungHouse$LongRun", "askedFor", "()I"⟩ ⟨"RungHouse$LongRun", "askedFor", "()I"⟩ : Cond) ∈ gt := gt_of (ck_4 (i := 45) rfl) rfl
set_option maxRecDepth 20000 in
theorem wd_766 : (Jvm.Cond.code ⟨"RungHouse$LongRun", "askedFor", "()I"⟩ prog_3_method_7_code 3 (Option.some FieldType.int) : Cond) ∈ gt := gt_of (ck_4 (i := 46) rfl) rfl
set_option maxRecDepth 20000 in
theorem wd_767 : (Jvm.Cond.methodLink "RungHouseLaw" 100 ⟨"RungHouse", "year", "(II)I"⟩ : Cond) ∈ gt := gt_of (ck_4 (i := 47) rfl) rfl
set_option maxRecDepth 20000 in
theorem wd_768 : (Jvm.Cond.instanceMethod ⟨"RungHouse", "year", "(II)I"⟩ : Cond) ∈ gt := gt_of (ck_4 (i := 48) rfl) rfl
set_option maxRecDepth 20000 in
theorem wd_769 : (Jvm.Cond.selects "RungHouse" ⟨"RungHouse", "year", "(II)I"⟩ ⟨"RungHouse", "year", "(II)I"⟩ : Cond) ∈ gt := gt_of (ck_4 (i := 49) rfl) rfl
set_option maxRecDepth 20000 in
theorem wd_770 : (Jvm.Cond.code ⟨"RungHouse", "year", "(II)I"⟩ prog_1_method_21_code 3 (Option.some FieldType.int) : Cond) ∈ gt := gt_of (ck_4 (i := 50) rfl) rfl
set_option maxRecDepth 20000 in
theorem wd_771 : (Jvm.Cond.methodLink "RungHouse" 269 ⟨"RungHouse$Memory", "addYear", "(II)V"⟩ : Cond) ∈ gt := gt_of (ck_4 (i := 51) rfl) rfl
set_option maxRecDepth 20000 in
theorem wd_772 : (Jvm.Cond.instanceMethod ⟨"RungHouse$Memory", "addYear", "(II)V"⟩ : Cond) ∈ gt := gt_of (ck_4 (i := 52) rfl) rfl
set_option maxRecDepth 20000 in
theorem wd_773 : (Jvm.Cond.selects "RungHouse$Memory" ⟨"RungHouse$Memory", "addYear", "(II)V"⟩ ⟨"RungHouse$Memory", "addYear", "(II)V"⟩ : Cond) ∈ gt := gt_of (ck_4 (i := 53) rfl) rfl
set_option maxRecDepth 20000 in
theorem wd_774 : (Jvm.Cond.code ⟨"RungHouse$Memory", "addYear", "(II)V"⟩ prog_4_method_4_code 3 none : Cond) ∈ gt := gt_of (ck_4 (i := 54) rfl) rfl
set_option maxRecDepth 20000 in
theorem wd_775 : (Jvm.Cond.methodLink "RungHouseLaw" 104 ⟨"RungHouse", "clear", "()I"⟩ : Cond) ∈ gt := gt_of (ck_4 (i := 55) rfl) rfl
set_option maxRecDepth 20000 in
theorem wd_776 : (Jvm.Cond.instanceMethod ⟨"RungHouse", "clear", "()I"⟩ : Cond) ∈ gt := gt_of (ck_4 (i := 56) rfl) rfl
set_option maxRecDepth 20000 in
theorem wd_777 : (Jvm.Cond.selects "RungHouse" ⟨"RungHouse", "clear", "()I"⟩ ⟨"RungHouse", "clear", "()I"⟩ : Cond) ∈ gt := gt_of (ck_4 (i := 57) rfl) rfl
set_option maxRecDepth 20000 in
theorem wd_778 : (Jvm.Cond.code ⟨"RungHouse", "clear", "()I"⟩ prog_1_method_22_code 2 (Option.some FieldType.int) : Cond) ∈ gt := gt_of (ck_4 (i := 58) rfl) rfl
set_option maxRecDepth 20000 in
theorem wd_779 : (Jvm.Cond.methodLink "RungHouseLaw" 108 ⟨"RungHouse", "think", "(III)I"⟩ : Cond) ∈ gt := gt_of (ck_4 (i := 59) rfl) rfl
set_option maxRecDepth 20000 in
theorem wd_780 : (Jvm.Cond.instanceMethod ⟨"RungHouse", "think", "(III)I"⟩ : Cond) ∈ gt := gt_of (ck_4 (i := 60) rfl) rfl
set_option maxRecDepth 20000 in
theorem wd_781 : (Jvm.Cond.selects "RungHouse" ⟨"RungHouse", "think", "(III)I"⟩ ⟨"RungHouse", "think", "(III)I"⟩ : Cond) ∈ gt := gt_of (ck_4 (i := 61) rfl) rfl
set_option maxRecDepth 20000 in
theorem wd_782 : (Jvm.Cond.code ⟨"RungHouse", "think", "(III)I"⟩ prog_1_method_23_code 7 (Option.some FieldType.int) : Cond) ∈ gt := gt_of (ck_4 (i := 62) rfl) rfl
set_option maxRecDepth 20000 in
theorem wd_783 : (Jvm.Cond.methodLink "RungHouse" 273 ⟨"RungHouse$Memory", "highestRung", "()I"⟩ : Cond) ∈ gt := gt_of (ck_4 (i := 63) rfl) rfl
set_option maxRecDepth 20000 in
theorem wd_784 : (Jvm.Cond.instanceMethod ⟨"RungHouse$Memory", "highestRung", "()I"⟩ : Cond) ∈ gt := gt_of (ck_4 (i := 64) rfl) rfl
set_option maxRecDepth 20000 in
theorem wd_785 : (Jvm.Cond.selects "RungHouse$Memory" ⟨"RungHouse$Memory", "highestRung", "()I"⟩ ⟨"RungHouse$Memory", "highestRung", "()I"⟩ : Cond) ∈ gt := gt_of (ck_4 (i := 65) rfl) rfl
set_option maxRecDepth 20000 in
theorem wd_786 : (Jvm.Cond.code ⟨"RungHouse$Memory", "highestRung", "()I"⟩ prog_4_method_5_code 3 (Option.some FieldType.int) : Cond) ∈ gt := gt_of (ck_4 (i := 66) rfl) rfl
set_option maxRecDepth 20000 in
theorem wd_787 : (Jvm.Cond.methodLink "RungHouse$Memory" 42 ⟨"java/lang/Math", "max", "(II)I"⟩ : Cond) ∈ gt := gt_of (ck_4 (i := 67) rfl) rfl
set_option maxRecDepth 20000 in
theorem wd_788 : (Jvm.Cond.methodLink "RungHouse" 276 ⟨"RungHouse", "weighSorts", "(II)V"⟩ : Cond) ∈ gt := gt_of (ck_4 (i := 68) rfl) rfl
set_option maxRecDepth 20000 in
theorem wd_790 : (Jvm.Cond.instanceMethod ⟨"RungHouse", "weighSorts", "(II)V"⟩ : Cond) ∈ gt := gt_of (ck_4 (i := 70) rfl) rfl
set_option maxRecDepth 20000 in
theorem wd_791 : (Jvm.Cond.code ⟨"RungHouse", "weighSorts", "(II)V"⟩ prog_1_method_45_code 7 none : Cond) ∈ gt := gt_of (ck_4 (i := 71) rfl) rfl
set_option maxRecDepth 20000 in
theorem wd_792 : (Jvm.Cond.constantLong "RungHouse" 322 (100000 : Int64) : Cond) ∈ gt := gt_of (ck_4 (i := 72) rfl) rfl
set_option maxRecDepth 20000 in
theorem wd_793 : (Jvm.Cond.constantLong "RungHouse" 329 (1000000 : Int64) : Cond) ∈ gt := gt_of (ck_4 (i := 73) rfl) rfl
set_option maxRecDepth 20000 in
theorem wd_794 : (Jvm.Cond.methodLink "RungHouse" 331 ⟨"java/lang/Math", "max", "(JJ)J"⟩ : Cond) ∈ gt := gt_of (ck_4 (i := 74) rfl) rfl
set_option maxRecDepth 20000 in
theorem wd_795 : (Jvm.Cond.static ⟨"java/lang/Math", "max", "(JJ)J"⟩ : Cond) ∈ gt := gt_of (ck_4 (i := 75) rfl) rfl
set_option maxRecDepth 20000 in
theorem wd_796 : (Jvm.Cond.code ⟨"java/lang/Math", "max", "(JJ)J"⟩ prog_11_method_66_code 4 (Option.some FieldType.long) : Cond) ∈ gt := gt_of (ck_4 (i := 76) rfl) rfl
set_option maxRecDepth 20000 in
theorem wd_797 : (Jvm.Cond.constantLong "RungHouse" 279 (100 : Int64) : Cond) ∈ gt := gt_of (ck_4 (i := 77) rfl) rfl
set_option maxRecDepth 20000 in
theorem wd_798 : (Jvm.Cond.methodLink "RungHouseLaw" 112 ⟨"RungHouse", "buy", "(IIIIII)I"⟩ : Cond) ∈ gt := gt_of (ck_4 (i := 78) rfl) rfl
set_option maxRecDepth 20000 in
theorem wd_799 : (Jvm.Cond.instanceMethod ⟨"RungHouse", "buy", "(IIIIII)I"⟩ : Cond) ∈ gt := gt_of (ck_4 (i := 79) rfl) rfl
set_option maxRecDepth 20000 in
theorem wd_800 : (Jvm.Cond.selects "RungHouse" ⟨"RungHouse", "buy", "(IIIIII)I"⟩ ⟨"RungHouse", "buy", "(IIIIII)I"⟩ : Cond) ∈ gt := gt_of (ck_4 (i := 80) rfl) rfl
set_option maxRecDepth 20000 in
theorem wd_801 : (Jvm.Cond.code ⟨"RungHouse", "buy", "(IIIIII)I"⟩ prog_1_method_24_code 9 (Option.some FieldType.int) : Cond) ∈ gt := gt_of (ck_4 (i := 81) rfl) rfl
set_option maxRecDepth 20000 in
theorem wd_802 : (Jvm.Cond.methodLink "RungHouseLaw" 116 ⟨"RungHouse", "keepRung", "(IIII)I"⟩ : Cond) ∈ gt := gt_of (ck_4 (i := 82) rfl) rfl
set_option maxRecDepth 20000 in
theorem wd_803 : (Jvm.Cond.instanceMethod ⟨"RungHouse", "keepRung", "(IIII)I"⟩ : Cond) ∈ gt := gt_of (ck_4 (i := 83) rfl) rfl
set_option maxRecDepth 20000 in
theorem wd_804 : (Jvm.Cond.selects "RungHouse" ⟨"RungHouse", "keepRung", "(IIII)I"⟩ ⟨"RungHouse", "keepRung", "(IIII)I"⟩ : Cond) ∈ gt := gt_of (ck_4 (i := 84) rfl) rfl
set_option maxRecDepth 20000 in
theorem wd_805 : (Jvm.Cond.code ⟨"RungHouse", "keepRung", "(IIII)I"⟩ prog_1_method_25_code 5 (Option.some FieldType.int) : Cond) ∈ gt := gt_of (ck_4 (i := 85) rfl) rfl
set_option maxRecDepth 20000 in
theorem wd_806 : (Jvm.Cond.methodLink "RungHouse" 281 ⟨"RungHouse$House", "isKept", "(I)Z"⟩ : Cond) ∈ gt := gt_of (ck_4 (i := 86) rfl) rfl
set_option maxRecDepth 20000 in
theorem wd_807 : (Jvm.Cond.methodLink "RungHouseLaw" 121 ⟨"RungHouse", "leave", "(IIII)I"⟩ : Cond) ∈ gt := gt_of (ck_4 (i := 87) rfl) rfl
set_option maxRecDepth 20000 in
theorem wd_808 : (Jvm.Cond.instanceMethod ⟨"RungHouse", "leave", "(IIII)I"⟩ : Cond) ∈ gt := gt_of (ck_4 (i := 88) rfl) rfl
set_option maxRecDepth 20000 in
theorem wd_809 : (Jvm.Cond.selects "RungHouse" ⟨"RungHouse", "leave", "(IIII)I"⟩ ⟨"RungHouse", "leave", "(IIII)I"⟩ : Cond) ∈ gt := gt_of (ck_4 (i := 89) rfl) rfl
set_option maxRecDepth 20000 in
theorem wd_810 : (Jvm.Cond.code ⟨"RungHouse", "leave", "(IIII)I"⟩ prog_1_method_26_code 6 (Option.some FieldType.int) : Cond) ∈ gt := gt_of (ck_4 (i := 90) rfl) rfl
set_option maxRecDepth 20000 in
theorem wd_811 : (Jvm.Cond.methodLink "RungHouse" 284 ⟨"java/lang/Math", "min", "(II)I"⟩ : Cond) ∈ gt := gt_of (ck_4 (i := 91) rfl) rfl
set_option maxRecDepth 20000 in
theorem wd_812 : (Jvm.Cond.methodLink "RungHouseLaw" 125 ⟨"RungHouse", "pad", "(IIIIIIIII)I"⟩ : Cond) ∈ gt := gt_of (ck_4 (i := 92) rfl) rfl
set_option maxRecDepth 20000 in
theorem wd_813 : (Jvm.Cond.instanceMethod ⟨"RungHouse", "pad", "(IIIIIIIII)I"⟩ : Cond) ∈ gt := gt_of (ck_4 (i := 93) rfl) rfl
set_option maxRecDepth 20000 in
theorem wd_814 : (Jvm.Cond.selects "RungHouse" ⟨"RungHouse", "pad", "(IIIIIIIII)I"⟩ ⟨"RungHouse", "pad", "(IIIIIIIII)I"⟩ : Cond) ∈ gt := gt_of (ck_4 (i := 94) rfl) rfl
set_option maxRecDepth 20000 in
theorem wd_815 : (Jvm.Cond.code ⟨"RungHouse", "pad", "(IIIIIIIII)I"⟩ prog_1_method_27_code 15 (Option.some FieldType.int) : Cond) ∈ gt := gt_of (ck_4 (i := 95) rfl) rfl
set_option maxRecDepth 20000 in
theorem wd_816 : (Jvm.Cond.methodLink "RungHouse" 289 ⟨"RungHouse$House", "bears", "(I)I"⟩ : Cond) ∈ gt := gt_of (ck_4 (i := 96) rfl) rfl
set_option maxRecDepth 20000 in
theorem wd_817 : (Jvm.Cond.constantLong "RungHouse" 292 (1000 : Int64) : Cond) ∈ gt := gt_of (ck_4 (i := 97) rfl) rfl
set_option maxRecDepth 20000 in
theorem wd_818 : (Jvm.Cond.methodLink "RungHouseLaw" 130 ⟨"RungHouse", "setting", "(III)I"⟩ : Cond) ∈ gt := gt_of (ck_4 (i := 98) rfl) rfl
set_option maxRecDepth 20000 in
theorem wd_819 : (Jvm.Cond.instanceMethod ⟨"RungHouse", "setting", "(III)I"⟩ : Cond) ∈ gt := gt_of (ck_4 (i := 99) rfl) rfl
set_option maxRecDepth 20000 in
theorem wd_820 : (Jvm.Cond.selects "RungHouse" ⟨"RungHouse", "setting", "(III)I"⟩ ⟨"RungHouse", "setting", "(III)I"⟩ : Cond) ∈ gt := gt_of (ck_4 (i := 100) rfl) rfl
set_option maxRecDepth 20000 in
theorem wd_821 : (Jvm.Cond.code ⟨"RungHouse", "setting", "(III)I"⟩ prog_1_method_28_code 8 (Option.some FieldType.int) : Cond) ∈ gt := gt_of (ck_4 (i := 101) rfl) rfl
set_option maxRecDepth 20000 in
theorem wd_822 : (Jvm.Cond.constant "RungHouse" 294 (-9999999 : Int32) : Cond) ∈ gt := gt_of (ck_4 (i := 102) rfl) rfl
set_option maxRecDepth 20000 in
theorem wd_823 : (Jvm.Cond.constant "RungHouse" 295 (9999999 : Int32) : Cond) ∈ gt := gt_of (ck_4 (i := 103) rfl) rfl
set_option maxRecDepth 20000 in
theorem wd_824 : (Jvm.Cond.methodLink "RungHouse" 296 ⟨"RungHouse", "painedTrial", "(II)I"⟩ : Cond) ∈ gt := gt_of (ck_4 (i := 104) rfl) rfl
set_option maxRecDepth 20000 in
theorem wd_826 : (Jvm.Cond.instanceMethod ⟨"RungHouse", "painedTrial", "(II)I"⟩ : Cond) ∈ gt := gt_of (ck_4 (i := 106) rfl) rfl
set_option maxRecDepth 20000 in
theorem wd_827 : (Jvm.Cond.code ⟨"RungHouse", "painedTrial", "(II)I"⟩ prog_1_method_46_code 6 (Option.some FieldType.int) : Cond) ∈ gt := gt_of (ck_4 (i := 107) rfl) rfl
set_option maxRecDepth 20000 in
theorem wd_828 : (Jvm.Cond.methodLink "RungHouseLaw" 134 ⟨"RungHouse", "seed", "(I)I"⟩ : Cond) ∈ gt := gt_of (ck_4 (i := 108) rfl) rfl
set_option maxRecDepth 20000 in
theorem wd_829 : (Jvm.Cond.instanceMethod ⟨"RungHouse", "seed", "(I)I"⟩ : Cond) ∈ gt := gt_of (ck_4 (i := 109) rfl) rfl
set_option maxRecDepth 20000 in
theorem wd_830 : (Jvm.Cond.selects "RungHouse" ⟨"RungHouse", "seed", "(I)I"⟩ ⟨"RungHouse", "seed", "(I)I"⟩ : Cond) ∈ gt := gt_of (ck_4 (i := 110) rfl) rfl
set_option maxRecDepth 20000 in
theorem wd_831 : (Jvm.Cond.code ⟨"RungHouse", "seed", "(I)I"⟩ prog_1_method_29_code 3 (Option.some FieldType.int) : Cond) ∈ gt := gt_of (ck_4 (i := 111) rfl) rfl
set_option maxRecDepth 20000 in
theorem wd_832 : (Jvm.Cond.methodLink "RungHouseLaw" 138 ⟨"RungHouse", "lives", "(IIII)I"⟩ : Cond) ∈ gt := gt_of (ck_4 (i := 112) rfl) rfl
set_option maxRecDepth 20000 in
theorem wd_833 : (Jvm.Cond.instanceMethod ⟨"RungHouse", "lives", "(IIII)I"⟩ : Cond) ∈ gt := gt_of (ck_4 (i := 113) rfl) rfl
set_option maxRecDepth 20000 in
theorem wd_834 : (Jvm.Cond.selects "RungHouse" ⟨"RungHouse", "lives", "(IIII)I"⟩ ⟨"RungHouse", "lives", "(IIII)I"⟩ : Cond) ∈ gt := gt_of (ck_4 (i := 114) rfl) rfl
set_option maxRecDepth 20000 in
theorem wd_835 : (Jvm.Cond.code ⟨"RungHouse", "lives", "(IIII)I"⟩ prog_1_method_30_code 13 (Option.some FieldType.int) : Cond) ∈ gt := gt_of (ck_4 (i := 115) rfl) rfl
set_option maxRecDepth 20000 in
theorem wd_836 : (Jvm.Cond.methodLink "RungHouse" 302 ⟨"RungHouse$Memory", "draw", "(I)I"⟩ : Cond) ∈ gt := gt_of (ck_4 (i := 116) rfl) rfl
set_option maxRecDepth 20000 in
theorem wd_837 : (Jvm.Cond.instanceMethod ⟨"RungHouse$Memory", "draw", "(I)I"⟩ : Cond) ∈ gt := gt_of (ck_4 (i := 117) rfl) rfl
set_option maxRecDepth 20000 in
theorem wd_838 : (Jvm.Cond.selects "RungHouse$Memory" ⟨"RungHouse$Memory", "draw", "(I)I"⟩ ⟨"RungHouse$Memory", "draw", "(I)I"⟩ : Cond) ∈ gt := gt_of (ck_4 (i := 118) rfl) rfl
set_option maxRecDepth 20000 in
theorem wd_839 : (Jvm.Cond.code ⟨"RungHouse$Memory", "draw", "(I)I"⟩ prog_4_method_6_code 2 (Option.some FieldType.int) : Cond) ∈ gt := gt_of (ck_4 (i := 119) rfl) rfl
set_option maxRecDepth 20000 in
theorem wd_840 : (Jvm.Cond.constantLong "RungHouse$Memory" 48 (1103515245 : Int64) : Cond) ∈ gt := gt_of (ck_4 (i := 120) rfl) rfl
set_option maxRecDepth 20000 in
theorem wd_841 : (Jvm.Cond.constantLong "RungHouse$Memory" 50 (12345 : Int64) : Cond) ∈ gt := gt_of (ck_4 (i := 121) rfl) rfl
set_option maxRecDepth 20000 in
theorem wd_842 : (Jvm.Cond.constantLong "RungHouse$Memory" 52 (2147483647 : Int64) : Cond) ∈ gt := gt_of (ck_4 (i := 122) rfl) rfl
set_option maxRecDepth 20000 in
theorem wd_843 : (Jvm.Cond.constant "RungHouse$Memory" 54 (65536 : Int32) : Cond) ∈ gt := gt_of (ck_4 (i := 123) rfl) rfl
set_option maxRecDepth 20000 in
theorem wd_844 : (Jvm.Cond.methodLink "RungHouse" 305 ⟨"RungHouse$Sort", "sumDrawn", "(I)I"⟩ : Cond) ∈ gt := gt_of (ck_4 (i := 124) rfl) rfl
set_option maxRecDepth 20000 in
theorem wd_845 : (Jvm.Cond.instanceMethod ⟨"RungHouse$Sort", "sumDrawn", "(I)I"⟩ : Cond) ∈ gt := gt_of (ck_4 (i := 125) rfl) rfl
set_option maxRecDepth 20000 in
theorem wd_846 : (Jvm.Cond.selects "RungHouse$Sort" ⟨"RungHouse$Sort", "sumDrawn", "(I)I"⟩ ⟨"RungHouse$Sort", "sumDrawn", "(I)I"⟩ : Cond) ∈ gt := gt_of (ck_4 (i := 126) rfl) rfl
set_option maxRecDepth 20000 in
theorem wd_847 : (Jvm.Cond.code ⟨"RungHouse$Sort", "sumDrawn", "(I)I"⟩ prog_8_method_3_code 4 (Option.some FieldType.int) : Cond) ∈ gt := gt_of (ck_4 (i := 127) rfl) rfl
set_option maxRecDepth 20000 in
theorem wd_848 : (Jvm.Cond.methodLink "RungHouse" 308 ⟨"RungHouse$Rule", "barOn", "(II)I"⟩ : Cond) ∈ gt := gt_of (ck_4 (i := 128) rfl) rfl
set_option maxRecDepth 20000 in
theorem wd_849 : (Jvm.Cond.methodLink "RungHouseLaw" 142 ⟨"RungHouse", "count", "(I)I"⟩ : Cond) ∈ gt := gt_of (ck_4 (i := 129) rfl) rfl
set_option maxRecDepth 20000 in
theorem wd_850 : (Jvm.Cond.instanceMethod ⟨"RungHouse", "count", "(I)I"⟩ : Cond) ∈ gt := gt_of (ck_4 (i := 130) rfl) rfl
set_option maxRecDepth 20000 in
theorem wd_851 : (Jvm.Cond.selects "RungHouse" ⟨"RungHouse", "count", "(I)I"⟩ ⟨"RungHouse", "count", "(I)I"⟩ : Cond) ∈ gt := gt_of (ck_4 (i := 131) rfl) rfl
set_option maxRecDepth 20000 in
theorem wd_852 : (Jvm.Cond.code ⟨"RungHouse", "count", "(I)I"⟩ prog_1_method_31_code 2 (Option.some FieldType.int) : Cond) ∈ gt := gt_of (ck_4 (i := 132) rfl) rfl
set_option maxRecDepth 20000 in
theorem wd_853 : (Jvm.Cond.methodLink "RungHouseLaw" 146 ⟨"RungHouse", "keep", "(I)I"⟩ : Cond) ∈ gt := gt_of (ck_4 (i := 133) rfl) rfl
set_option maxRecDepth 20000 in
theorem wd_854 : (Jvm.Cond.instanceMethod ⟨"RungHouse", "keep", "(I)I"⟩ : Cond) ∈ gt := gt_of (ck_4 (i := 134) rfl) rfl
set_option maxRecDepth 20000 in
theorem wd_855 : (Jvm.Cond.selects "RungHouse" ⟨"RungHouse", "keep", "(I)I"⟩ ⟨"RungHouse", "keep", "(I)I"⟩ : Cond) ∈ gt := gt_of (ck_4 (i := 135) rfl) rfl
set_option maxRecDepth 20000 in
theorem wd_856 : (Jvm.Cond.code ⟨"RungHouse", "keep", "(I)I"⟩ prog_1_method_32_code 2 (Option.some FieldType.int) : Cond) ∈ gt := gt_of (ck_4 (i := 136) rfl) rfl
set_option maxRecDepth 20000 in
theorem wd_857 : (Jvm.Cond.methodLink "RungHouse" 311 ⟨"RungHouse$Memory", "copyFrom", "(LRungHouse$Memory;)V"⟩ : Cond) ∈ gt := gt_of (ck_4 (i := 137) rfl) rfl
set_option maxRecDepth 20000 in
theorem wd_858 : (Jvm.Cond.instanceMethod ⟨"RungHouse$Memory", "copyFrom", "(LRungHouse$Memory;)V"⟩ : Cond) ∈ gt := gt_of (ck_4 (i := 138) rfl) rfl
set_option maxRecDepth 20000 in
theorem wd_859 : (Jvm.Cond.selects "RungHouse$Memory" ⟨"RungHouse$Memory", "copyFrom", "(LRungHouse$Memory;)V"⟩ ⟨"RungHouse$Memory", "copyFrom", "(LRungHouse$Memory;)V"⟩ : Cond) ∈ gt := gt_of (ck_4 (i := 139) rfl) rfl
set_option maxRecDepth 20000 in
theorem wd_860 : (Jvm.Cond.code ⟨"RungHouse$Memory", "copyFrom", "(LRungHouse$Memory;)V"⟩ prog_4_method_7_code 3 none : Cond) ∈ gt := gt_of (ck_4 (i := 140) rfl) rfl
set_option maxRecDepth 20000 in
theorem wd_861 : (Jvm.Cond.methodLink "RungHouseLaw" 150 ⟨"RungHouse", "goBack", "(I)I"⟩ : Cond) ∈ gt := gt_of (ck_4 (i := 141) rfl) rfl
set_option maxRecDepth 20000 in
theorem wd_862 : (Jvm.Cond.instanceMethod ⟨"RungHouse", "goBack", "(I)I"⟩ : Cond) ∈ gt := gt_of (ck_4 (i := 142) rfl) rfl
set_option maxRecDepth 20000 in
theorem wd_863 : (Jvm.Cond.selects "RungHouse" ⟨"RungHouse", "goBack", "(I)I"⟩ ⟨"RungHouse", "goBack", "(I)I"⟩ : Cond) ∈ gt := gt_of (ck_4 (i := 143) rfl) rfl
set_option maxRecDepth 20000 in
theorem wd_864 : (Jvm.Cond.code ⟨"RungHouse", "goBack", "(I)I"⟩ prog_1_method_33_code 2 (Option.some FieldType.int) : Cond) ∈ gt := gt_of (ck_4 (i := 144) rfl) rfl
set_option maxRecDepth 20000 in
theorem wd_865 : (Jvm.Cond.classLink "RungHouseLaw" 10 "RungHouseModel" : Cond) ∈ gt := gt_of (ck_4 (i := 145) rfl) rfl
set_option maxRecDepth 20000 in
theorem wd_866 : (Jvm.Cond.instantiable "RungHouseModel" 50 : Cond) ∈ gt := gt_of (ck_4 (i := 146) rfl) rfl
set_option maxRecDepth 20000 in
theorem wd_867 : (Jvm.Cond.methodLink "RungHouseLaw" 12 ⟨"RungHouseModel", "<init>", "()V"⟩ : Cond) ∈ gt := gt_of (ck_4 (i := 147) rfl) rfl
set_option maxRecDepth 20000 in
theorem wd_868 : (Jvm.Cond.instanceMethod ⟨"RungHouseModel", "<init>", "()V"⟩ : Cond) ∈ gt := gt_of (ck_4 (i := 148) rfl) rfl
set_option maxRecDepth 20000 in
theorem wd_869 : (Jvm.Cond.code ⟨"RungHouseModel", "<init>", "()V"⟩ prog_10_method_1_code 1 none : Cond) ∈ gt := gt_of (ck_4 (i := 149) rfl) rfl
set_option maxRecDepth 20000 in
theorem wd_870 : (Jvm.Cond.methodLink "RungHouseModel" 1 ⟨"java/lang/Object", "<init>", "()V"⟩ : Cond) ∈ gt := gt_of (ck_4 (i := 150) rfl) rfl
set_option maxRecDepth 20000 in
theorem wd_871 : (Jvm.Cond.fieldLink "RungHouseModel" 7 "RungHouseModel" "rungs" "[I" : Cond) ∈ gt := gt_of (ck_4 (i := 151) rfl) rfl
set_option maxRecDepth 20000 in
theorem wd_872 : (Jvm.Cond.fieldLink "RungHouseModel" 13 "RungHouseModel" "pay" "[I" : Cond) ∈ gt := gt_of (ck_4 (i := 152) rfl) rfl
set_option maxRecDepth 20000 in
theorem wd_873 : (Jvm.Cond.fieldLink "RungHouseModel" 16 "RungHouseModel" "keptSet" "[I" : Cond) ∈ gt := gt_of (ck_4 (i := 153) rfl) rfl
set_option maxRecDepth 20000 in
theorem wd_874 : (Jvm.Cond.fieldLink "RungHouseModel" 19 "RungHouseModel" "downs" "[I" : Cond) ∈ gt := gt_of (ck_4 (i := 154) rfl) rfl
set_option maxRecDepth 20000 in
theorem wd_875 : (Jvm.Cond.fieldLink "RungHouseModel" 22 "RungHouseModel" "ups" "[I" : Cond) ∈ gt := gt_of (ck_4 (i := 155) rfl) rfl
set_option maxRecDepth 20000 in
theorem wd_876 : (Jvm.Cond.fieldLink "RungHouseModel" 25 "RungHouseModel" "firsts" "[I" : Cond) ∈ gt := gt_of (ck_4 (i := 156) rfl) rfl
set_option maxRecDepth 20000 in
theorem wd_877 : (Jvm.Cond.fieldLink "RungHouseModel" 28 "RungHouseModel" "enters" "[I" : Cond) ∈ gt := gt_of (ck_4 (i := 157) rfl) rfl
set_option maxRecDepth 20000 in
theorem wd_878 : (Jvm.Cond.fieldLink "RungHouseModel" 106 "RungHouseModel" "sorts" "I" : Cond) ∈ gt := gt_of (ck_4 (i := 158) rfl) rfl
set_option maxRecDepth 20000 in
theorem wd_879 : (Jvm.Cond.fieldLink "RungHouseModel" 31 "RungHouseModel" "scrapeMany" "[I" : Cond) ∈ gt := gt_of (ck_4 (i := 159) rfl) rfl
set_option maxRecDepth 20000 in
theorem wd_880 : (Jvm.Cond.fieldLink "RungHouseModel" 34 "RungHouseModel" "sums" "[I" : Cond) ∈ gt := gt_of (ck_4 (i := 160) rfl) rfl
set_option maxRecDepth 20000 in
theorem wd_881 : (Jvm.Cond.fieldLink "RungHouseModel" 37 "RungHouseModel" "chances" "[I" : Cond) ∈ gt := gt_of (ck_4 (i := 161) rfl) rfl
set_option maxRecDepth 20000 in
theorem wd_882 : (Jvm.Cond.fieldLink "RungHouseModel" 40 "RungHouseModel" "painCost" "[I" : Cond) ∈ gt := gt_of (ck_4 (i := 162) rfl) rfl
set_option maxRecDepth 20000 in
theorem wd_883 : (Jvm.Cond.fieldLink "RungHouseModel" 43 "RungHouseModel" "painLess" "[I" : Cond) ∈ gt := gt_of (ck_4 (i := 163) rfl) rfl
set_option maxRecDepth 20000 in
theorem wd_884 : (Jvm.Cond.fieldLink "RungHouseModel" 46 "RungHouseModel" "text" "[I" : Cond) ∈ gt := gt_of (ck_4 (i := 164) rfl) rfl
set_option maxRecDepth 20000 in
theorem wd_885 : (Jvm.Cond.fieldLink "RungHouseModel" 122 "RungHouseModel" "texted" "I" : Cond) ∈ gt := gt_of (ck_4 (i := 165) rfl) rfl
set_option maxRecDepth 20000 in
theorem wd_886 : (Jvm.Cond.fieldLink "RungHouseModel" 49 "RungHouseModel" "faultPlace" "I" : Cond) ∈ gt := gt_of (ck_4 (i := 166) rfl) rfl
set_option maxRecDepth 20000 in
theorem wd_887 : (Jvm.Cond.fieldLink "RungHouseModel" 128 "RungHouseModel" "at0" "I" : Cond) ∈ gt := gt_of (ck_4 (i := 167) rfl) rfl
set_option maxRecDepth 20000 in
theorem wd_888 : (Jvm.Cond.fieldLink "RungHouseModel" 135 "RungHouseModel" "said" "J" : Cond) ∈ gt := gt_of (ck_4 (i := 168) rfl) rfl
set_option maxRecDepth 20000 in
theorem wd_889 : (Jvm.Cond.fieldLink "RungHouseModel" 139 "RungHouseModel" "wordEnd" "I" : Cond) ∈ gt := gt_of (ck_4 (i := 169) rfl) rfl
set_option maxRecDepth 20000 in
theorem wd_890 : (Jvm.Cond.fieldLink "RungHouseModel" 165 "RungHouseModel" "number" "I" : Cond) ∈ gt := gt_of (ck_4 (i := 170) rfl) rfl
set_option maxRecDepth 20000 in
theorem wd_891 : (Jvm.Cond.fieldLink "RungHouseModel" 162 "RungHouseModel" "numberAt" "I" : Cond) ∈ gt := gt_of (ck_4 (i := 171) rfl) rfl
set_option maxRecDepth 20000 in
theorem wd_892 : (Jvm.Cond.fieldLink "RungHouseModel" 184 "RungHouseModel" "toldSet" "I" : Cond) ∈ gt := gt_of (ck_4 (i := 172) rfl) rfl
set_option maxRecDepth 20000 in
theorem wd_893 : (Jvm.Cond.fieldLink "RungHouseModel" 218 "RungHouseModel" "allOdds" "I" : Cond) ∈ gt := gt_of (ck_4 (i := 173) rfl) rfl
set_option maxRecDepth 20000 in
theorem wd_894 : (Jvm.Cond.fieldLink "RungHouseModel" 246 "RungHouseModel" "rules" "I" : Cond) ∈ gt := gt_of (ck_4 (i := 174) rfl) rfl
set_option maxRecDepth 20000 in
theorem wd_895 : (Jvm.Cond.fieldLink "RungHouseModel" 53 "RungHouseModel" "ruleMany" "[I" : Cond) ∈ gt := gt_of (ck_4 (i := 175) rfl) rfl
set_option maxRecDepth 20000 in
theorem wd_896 : (Jvm.Cond.fieldLink "RungHouseModel" 56 "RungHouseModel" "ruleRow" "[I" : Cond) ∈ gt := gt_of (ck_4 (i := 176) rfl) rfl
set_option maxRecDepth 20000 in
theorem wd_897 : (Jvm.Cond.fieldLink "RungHouseModel" 59 "RungHouseModel" "costAt" "[I" : Cond) ∈ gt := gt_of (ck_4 (i := 177) rfl) rfl
set_option maxRecDepth 20000 in
theorem wd_898 : (Jvm.Cond.fieldLink "RungHouseModel" 62 "RungHouseModel" "inAt" "[I" : Cond) ∈ gt := gt_of (ck_4 (i := 178) rfl) rfl
set_option maxRecDepth 20000 in
theorem wd_899 : (Jvm.Cond.fieldLink "RungHouseModel" 278 "RungHouseModel" "sort0" "I" : Cond) ∈ gt := gt_of (ck_4 (i := 179) rfl) rfl
set_option maxRecDepth 20000 in
theorem wd_900 : (Jvm.Cond.fieldLink "RungHouseModel" 255 "RungHouseModel" "house0" "I" : Cond) ∈ gt := gt_of (ck_4 (i := 180) rfl) rfl
set_option maxRecDepth 20000 in
theorem wd_901 : (Jvm.Cond.fieldLink "RungHouseModel" 258 "RungHouseModel" "rule0" "I" : Cond) ∈ gt := gt_of (ck_4 (i := 181) rfl) rfl
set_option maxRecDepth 20000 in
theorem wd_902 : (Jvm.Cond.fieldLink "RungHouseModel" 295 "RungHouseModel" "years0" "I" : Cond) ∈ gt := gt_of (ck_4 (i := 182) rfl) rfl
set_option maxRecDepth 20000 in
theorem wd_903 : (Jvm.Cond.fieldLink "RungHouseModel" 205 "RungHouseModel" "isWorked" "Z" : Cond) ∈ gt := gt_of (ck_4 (i := 183) rfl) rfl
set_option maxRecDepth 20000 in
theorem wd_904 : (Jvm.Cond.fieldLink "RungHouseModel" 328 "RungHouseModel" "life" "I" : Cond) ∈ gt := gt_of (ck_4 (i := 184) rfl) rfl
set_option maxRecDepth 20000 in
theorem wd_905 : (Jvm.Cond.fieldLink "RungHouseModel" 65 "RungHouseModel" "lifeMonth" "[I" : Cond) ∈ gt := gt_of (ck_4 (i := 185) rfl) rfl
set_option maxRecDepth 20000 in
theorem wd_906 : (Jvm.Cond.fieldLink "RungHouseModel" 68 "RungHouseModel" "lifeSum" "[I" : Cond) ∈ gt := gt_of (ck_4 (i := 186) rfl) rfl
set_option maxRecDepth 20000 in
theorem wd_907 : (Jvm.Cond.fieldLink "RungHouseModel" 71 "RungHouseModel" "isAsked" "[Z" : Cond) ∈ gt := gt_of (ck_4 (i := 187) rfl) rfl
set_option maxRecDepth 20000 in
theorem wd_908 : (Jvm.Cond.fieldLink "RungHouseModel" 75 "RungHouseModel" "yearOdds" "[I" : Cond) ∈ gt := gt_of (ck_4 (i := 188) rfl) rfl
set_option maxRecDepth 20000 in
theorem wd_909 : (Jvm.Cond.fieldLink "RungHouseModel" 78 "RungHouseModel" "passed" "[I" : Cond) ∈ gt := gt_of (ck_4 (i := 189) rfl) rfl
set_option maxRecDepth 20000 in
theorem wd_910 : (Jvm.Cond.fieldLink "RungHouseModel" 331 "RungHouseModel" "borne" "J" : Cond) ∈ gt := gt_of (ck_4 (i := 190) rfl) rfl
set_option maxRecDepth 20000 in
theorem wd_911 : (Jvm.Cond.fieldLink "RungHouseModel" 81 "RungHouseModel" "standingAt" "[I" : Cond) ∈ gt := gt_of (ck_4 (i := 191) rfl) rfl
set_option maxRecDepth 20000 in
theorem wd_912 : (Jvm.Cond.fieldLink "RungHouseModel" 84 "RungHouseModel" "standingThen" "[I" : Cond) ∈ gt := gt_of (ck_4 (i := 192) rfl) rfl
set_option maxRecDepth 20000 in
theorem wd_913 : (Jvm.Cond.fieldLink "RungHouseModel" 354 "RungHouseModel" "rows" "I" : Cond) ∈ gt := gt_of (ck_4 (i := 193) rfl) rfl
set_option maxRecDepth 20000 in
theorem wd_914 : (Jvm.Cond.fieldLink "RungHouseModel" 87 "RungHouseModel" "rowRung" "[I" : Cond) ∈ gt := gt_of (ck_4 (i := 194) rfl) rfl
set_option maxRecDepth 20000 in
theorem wd_915 : (Jvm.Cond.fieldLink "RungHouseModel" 90 "RungHouseModel" "rowAskings" "[I" : Cond) ∈ gt := gt_of (ck_4 (i := 195) rfl) rfl
set_option maxRecDepth 20000 in
theorem wd_916 : (Jvm.Cond.fieldLink "RungHouseModel" 93 "RungHouseModel" "weights" "[J" : Cond) ∈ gt := gt_of (ck_4 (i := 196) rfl) rfl
set_option maxRecDepth 20000 in
theorem wd_917 : (Jvm.Cond.fieldLink "RungHouseModel" 97 "RungHouseModel" "rowOdds" "[I" : Cond) ∈ gt := gt_of (ck_4 (i := 197) rfl) rfl
set_option maxRecDepth 20000 in
theorem wd_918 : (Jvm.Cond.fieldLink "RungHouseModel" 375 "RungHouseModel" "seed" "I" : Cond) ∈ gt := gt_of (ck_4 (i := 198) rfl) rfl
set_option maxRecDepth 20000 in
theorem wd_919 : (Jvm.Cond.fieldLink "RungHouseModel" 100 "RungHouseModel" "images" "[I" : Cond) ∈ gt := gt_of (ck_4 (i := 199) rfl) rfl
set_option maxRecDepth 20000 in
theorem wd_920 : (Jvm.Cond.fieldLink "RungHouseModel" 103 "RungHouseModel" "isKept" "[Z" : Cond) ∈ gt := gt_of (ck_4 (i := 200) rfl) rfl
set_option maxRecDepth 20000 in
theorem wd_921 : (Jvm.Cond.laysFinal "RungHouseModel" "RungHouseModel" "rungs" "[I" : Cond) ∈ gt := gt_of (ck_4 (i := 201) rfl) rfl
set_option maxRecDepth 20000 in
theorem wd_923 : (Jvm.Cond.laysFinal "RungHouseModel" "RungHouseModel" "pay" "[I" : Cond) ∈ gt := gt_of (ck_4 (i := 203) rfl) rfl
set_option maxRecDepth 20000 in
theorem wd_925 : (Jvm.Cond.laysFinal "RungHouseModel" "RungHouseModel" "keptSet" "[I" : Cond) ∈ gt := gt_of (ck_4 (i := 205) rfl) rfl
set_option maxRecDepth 20000 in
theorem wd_927 : (Jvm.Cond.laysFinal "RungHouseModel" "RungHouseModel" "downs" "[I" : Cond) ∈ gt := gt_of (ck_4 (i := 207) rfl) rfl
set_option maxRecDepth 20000 in
theorem wd_929 : (Jvm.Cond.laysFinal "RungHouseModel" "RungHouseModel" "ups" "[I" : Cond) ∈ gt := gt_of (ck_4 (i := 209) rfl) rfl
set_option maxRecDepth 20000 in
theorem wd_931 : (Jvm.Cond.laysFinal "RungHouseModel" "RungHouseModel" "firsts" "[I" : Cond) ∈ gt := gt_of (ck_4 (i := 211) rfl) rfl
set_option maxRecDepth 20000 in
theorem wd_933 : (Jvm.Cond.laysFinal "RungHouseModel" "RungHouseModel" "enters" "[I" : Cond) ∈ gt := gt_of (ck_4 (i := 213) rfl) rfl
set_option maxRecDepth 20000 in
theorem wd_935 : (Jvm.Cond.lays "RungHouseModel" "RungHouseModel" "sorts" "I" : Cond) ∈ gt := gt_of (ck_4 (i := 215) rfl) rfl
set_option maxRecDepth 20000 in
theorem wd_937 : (Jvm.Cond.laysFinal "RungHouseModel" "RungHouseModel" "scrapeMany" "[I" : Cond) ∈ gt := gt_of (ck_4 (i := 217) rfl) rfl
set_option maxRecDepth 20000 in
theorem wd_939 : (Jvm.Cond.laysFinal "RungHouseModel" "RungHouseModel" "sums" "[I" : Cond) ∈ gt := gt_of (ck_4 (i := 219) rfl) rfl
set_option maxRecDepth 20000 in
theorem wd_941 : (Jvm.Cond.laysFinal "RungHouseModel" "RungHouseModel" "chances" "[I" : Cond) ∈ gt := gt_of (ck_4 (i := 221) rfl) rfl
set_option maxRecDepth 20000 in
theorem wd_943 : (Jvm.Cond.laysFinal "RungHouseModel" "RungHouseModel" "painCost" "[I" : Cond) ∈ gt := gt_of (ck_4 (i := 223) rfl) rfl
set_option maxRecDepth 20000 in
theorem wd_945 : (Jvm.Cond.laysFinal "RungHouseModel" "RungHouseModel" "painLess" "[I" : Cond) ∈ gt := gt_of (ck_4 (i := 225) rfl) rfl
set_option maxRecDepth 20000 in
theorem wd_947 : (Jvm.Cond.laysFinal "RungHouseModel" "RungHouseModel" "text" "[I" : Cond) ∈ gt := gt_of (ck_4 (i := 227) rfl) rfl
set_option maxRecDepth 20000 in
theorem wd_949 : (Jvm.Cond.lays "RungHouseModel" "RungHouseModel" "texted" "I" : Cond) ∈ gt := gt_of (ck_4 (i := 229) rfl) rfl
set_option maxRecDepth 20000 in
theorem wd_951 : (Jvm.Cond.lays "RungHouseModel" "RungHouseModel" "faultPlace" "I" : Cond) ∈ gt := gt_of (ck_4 (i := 231) rfl) rfl
set_option maxRecDepth 20000 in
theorem wd_953 : (Jvm.Cond.lays "RungHouseModel" "RungHouseModel" "at0" "I" : Cond) ∈ gt := gt_of (ck_4 (i := 233) rfl) rfl
set_option maxRecDepth 20000 in
theorem wd_955 : (Jvm.Cond.lays "RungHouseModel" "RungHouseModel" "said" "J" : Cond) ∈ gt := gt_of (ck_4 (i := 235) rfl) rfl
set_option maxRecDepth 20000 in
theorem wd_957 : (Jvm.Cond.lays "RungHouseModel" "RungHouseModel" "wordEnd" "I" : Cond) ∈ gt := gt_of (ck_4 (i := 237) rfl) rfl
set_option maxRecDepth 20000 in
theorem wd_959 : (Jvm.Cond.lays "RungHouseModel" "RungHouseModel" "number" "I" : Cond) ∈ gt := gt_of (ck_4 (i := 239) rfl) rfl
set_option maxRecDepth 20000 in
theorem wd_961 : (Jvm.Cond.lays "RungHouseModel" "RungHouseModel" "numberAt" "I" : Cond) ∈ gt := gt_of (ck_5 (i := 1) rfl) rfl
set_option maxRecDepth 20000 in
theorem wd_963 : (Jvm.Cond.lays "RungHouseModel" "RungHouseModel" "toldSet" "I" : Cond) ∈ gt := gt_of (ck_5 (i := 3) rfl) rfl
set_option maxRecDepth 20000 in
theorem wd_965 : (Jvm.Cond.lays "RungHouseModel" "RungHouseModel" "allOdds" "I" : Cond) ∈ gt := gt_of (ck_5 (i := 5) rfl) rfl
set_option maxRecDepth 20000 in
theorem wd_967 : (Jvm.Cond.lays "RungHouseModel" "RungHouseModel" "rules" "I" : Cond) ∈ gt := gt_of (ck_5 (i := 7) rfl) rfl
set_option maxRecDepth 20000 in
theorem wd_969 : (Jvm.Cond.laysFinal "RungHouseModel" "RungHouseModel" "ruleMany" "[I" : Cond) ∈ gt := gt_of (ck_5 (i := 9) rfl) rfl
set_option maxRecDepth 20000 in
theorem wd_971 : (Jvm.Cond.laysFinal "RungHouseModel" "RungHouseModel" "ruleRow" "[I" : Cond) ∈ gt := gt_of (ck_5 (i := 11) rfl) rfl
set_option maxRecDepth 20000 in
theorem wd_973 : (Jvm.Cond.laysFinal "RungHouseModel" "RungHouseModel" "costAt" "[I" : Cond) ∈ gt := gt_of (ck_5 (i := 13) rfl) rfl
set_option maxRecDepth 20000 in
theorem wd_975 : (Jvm.Cond.laysFinal "RungHouseModel" "RungHouseModel" "inAt" "[I" : Cond) ∈ gt := gt_of (ck_5 (i := 15) rfl) rfl
set_option maxRecDepth 20000 in
theorem wd_977 : (Jvm.Cond.lays "RungHouseModel" "RungHouseModel" "sort0" "I" : Cond) ∈ gt := gt_of (ck_5 (i := 17) rfl) rfl
set_option maxRecDepth 20000 in
theorem wd_979 : (Jvm.Cond.lays "RungHouseModel" "RungHouseModel" "house0" "I" : Cond) ∈ gt := gt_of (ck_5 (i := 19) rfl) rfl
set_option maxRecDepth 20000 in
theorem wd_981 : (Jvm.Cond.lays "RungHouseModel" "RungHouseModel" "rule0" "I" : Cond) ∈ gt := gt_of (ck_5 (i := 21) rfl) rfl
set_option maxRecDepth 20000 in
theorem wd_983 : (Jvm.Cond.lays "RungHouseModel" "RungHouseModel" "years0" "I" : Cond) ∈ gt := gt_of (ck_5 (i := 23) rfl) rfl
set_option maxRecDepth 20000 in
theorem wd_985 : (Jvm.Cond.lays "RungHouseModel" "RungHouseModel" "isWorked" "Z" : Cond) ∈ gt := gt_of (ck_5 (i := 25) rfl) rfl
set_option maxRecDepth 20000 in
theorem wd_987 : (Jvm.Cond.lays "RungHouseModel" "RungHouseModel" "life" "I" : Cond) ∈ gt := gt_of (ck_5 (i := 27) rfl) rfl
set_option maxRecDepth 20000 in
theorem wd_989 : (Jvm.Cond.laysFinal "RungHouseModel" "RungHouseModel" "lifeMonth" "[I" : Cond) ∈ gt := gt_of (ck_5 (i := 29) rfl) rfl
set_option maxRecDepth 20000 in
theorem wd_991 : (Jvm.Cond.laysFinal "RungHouseModel" "RungHouseModel" "lifeSum" "[I" : Cond) ∈ gt := gt_of (ck_5 (i := 31) rfl) rfl
set_option maxRecDepth 20000 in
theorem wd_993 : (Jvm.Cond.laysFinal "RungHouseModel" "RungHouseModel" "isAsked" "[Z" : Cond) ∈ gt := gt_of (ck_5 (i := 33) rfl) rfl
set_option maxRecDepth 20000 in
theorem wd_995 : (Jvm.Cond.laysFinal "RungHouseModel" "RungHouseModel" "yearOdds" "[I" : Cond) ∈ gt := gt_of (ck_5 (i := 35) rfl) rfl
set_option maxRecDepth 20000 in
theorem wd_997 : (Jvm.Cond.laysFinal "RungHouseModel" "RungHouseModel" "passed" "[I" : Cond) ∈ gt := gt_of (ck_5 (i := 37) rfl) rfl
set_option maxRecDepth 20000 in
theorem wd_999 : (Jvm.Cond.lays "RungHouseModel" "RungHouseModel" "borne" "J" : Cond) ∈ gt := gt_of (ck_5 (i := 39) rfl) rfl
set_option maxRecDepth 20000 in
theorem wd_1001 : (Jvm.Cond.laysFinal "RungHouseModel" "RungHouseModel" "standingAt" "[I" : Cond) ∈ gt := gt_of (ck_5 (i := 41) rfl) rfl
set_option maxRecDepth 20000 in
theorem wd_1003 : (Jvm.Cond.laysFinal "RungHouseModel" "RungHouseModel" "standingThen" "[I" : Cond) ∈ gt := gt_of (ck_5 (i := 43) rfl) rfl
set_option maxRecDepth 20000 in
theorem wd_1005 : (Jvm.Cond.lays "RungHouseModel" "RungHouseModel" "rows" "I" : Cond) ∈ gt := gt_of (ck_5 (i := 45) rfl) rfl
set_option maxRecDepth 20000 in
theorem wd_1007 : (Jvm.Cond.laysFinal "RungHouseModel" "RungHouseModel" "rowRung" "[I" : Cond) ∈ gt := gt_of (ck_5 (i := 47) rfl) rfl
set_option maxRecDepth 20000 in
theorem wd_1009 : (Jvm.Cond.laysFinal "RungHouseModel" "RungHouseModel" "rowAskings" "[I" : Cond) ∈ gt := gt_of (ck_5 (i := 49) rfl) rfl
set_option maxRecDepth 20000 in
theorem wd_1011 : (Jvm.Cond.laysFinal "RungHouseModel" "RungHouseModel" "weights" "[J" : Cond) ∈ gt := gt_of (ck_5 (i := 51) rfl) rfl
set_option maxRecDepth 20000 in
theorem wd_1013 : (Jvm.Cond.laysFinal "RungHouseModel" "RungHouseModel" "rowOdds" "[I" : Cond) ∈ gt := gt_of (ck_5 (i := 53) rfl) rfl
set_option maxRecDepth 20000 in
theorem wd_1015 : (Jvm.Cond.lays "RungHouseModel" "RungHouseModel" "seed" "I" : Cond) ∈ gt := gt_of (ck_5 (i := 55) rfl) rfl
set_option maxRecDepth 20000 in
theorem wd_1017 : (Jvm.Cond.laysFinal "RungHouseModel" "RungHouseModel" "images" "[I" : Cond) ∈ gt := gt_of (ck_5 (i := 57) rfl) rfl
set_option maxRecDepth 20000 in
theorem wd_1019 : (Jvm.Cond.laysFinal "RungHouseModel" "RungHouseModel" "isKept" "[Z" : Cond) ∈ gt := gt_of (ck_5 (i := 59) rfl) rfl
set_option maxRecDepth 20000 in
theorem wd_1022 : (Jvm.Cond.methodLink "RungHouseLaw" 19 ⟨"RungHouseModel", "feed", "(IJ)I"⟩ : Cond) ∈ gt := gt_of (ck_5 (i := 62) rfl) rfl
set_option maxRecDepth 20000 in
theorem wd_1023 : (Jvm.Cond.instanceMethod ⟨"RungHouseModel", "feed", "(IJ)I"⟩ : Cond) ∈ gt := gt_of (ck_5 (i := 63) rfl) rfl
set_option maxRecDepth 20000 in
theorem wd_1024 : (Jvm.Cond.selects "RungHouseModel" ⟨"RungHouseModel", "feed", "(IJ)I"⟩ ⟨"RungHouseModel", "feed", "(IJ)I"⟩ : Cond) ∈ gt := gt_of (ck_5 (i := 64) rfl) rfl
set_option maxRecDepth 20000 in
theorem wd_1025 : (Jvm.Cond.code ⟨"RungHouseModel", "feed", "(IJ)I"⟩ prog_10_method_9_code 5 (Option.some FieldType.int) : Cond) ∈ gt := gt_of (ck_5 (i := 65) rfl) rfl
set_option maxRecDepth 20000 in
theorem wd_1026 : (Jvm.Cond.constantLong "RungHouseModel" 119 (8 : Int64) : Cond) ∈ gt := gt_of (ck_5 (i := 66) rfl) rfl
set_option maxRecDepth 20000 in
theorem wd_1027 : (Jvm.Cond.methodLink "RungHouseModel" 109 ⟨"RungHouseModel", "within", "(JJJ)Z"⟩ : Cond) ∈ gt := gt_of (ck_5 (i := 67) rfl) rfl
set_option maxRecDepth 20000 in
theorem wd_1028 : (Jvm.Cond.static ⟨"RungHouseModel", "within", "(JJJ)Z"⟩ : Cond) ∈ gt := gt_of (ck_5 (i := 68) rfl) rfl
set_option maxRecDepth 20000 in
theorem wd_1029 : (Jvm.Cond.code ⟨"RungHouseModel", "within", "(JJJ)Z"⟩ prog_10_method_3_code 6 (Option.some FieldType.boolean) : Cond) ∈ gt := gt_of (ck_5 (i := 69) rfl) rfl
set_option maxRecDepth 20000 in
theorem wd_1030 : (Jvm.Cond.constant "RungHouseModel" 121 (-1000000002 : Int32) : Cond) ∈ gt := gt_of (ck_5 (i := 70) rfl) rfl
set_option maxRecDepth 20000 in
theorem wd_1031 : (Jvm.Cond.constant "RungHouseModel" 125 (-1000000004 : Int32) : Cond) ∈ gt := gt_of (ck_5 (i := 71) rfl) rfl
set_option maxRecDepth 20000 in
theorem wd_1032 : (Jvm.Cond.constantLong "RungHouseModel" 126 (255 : Int64) : Cond) ∈ gt := gt_of (ck_5 (i := 72) rfl) rfl
set_option maxRecDepth 20000 in
theorem wd_1033 : (Jvm.Cond.methodLink "RungHouseLaw" 24 ⟨"RungHouseModel", "house", "(I)I"⟩ : Cond) ∈ gt := gt_of (ck_5 (i := 73) rfl) rfl
set_option maxRecDepth 20000 in
theorem wd_1034 : (Jvm.Cond.instanceMethod ⟨"RungHouseModel", "house", "(I)I"⟩ : Cond) ∈ gt := gt_of (ck_5 (i := 74) rfl) rfl
set_option maxRecDepth 20000 in
theorem wd_1035 : (Jvm.Cond.selects "RungHouseModel" ⟨"RungHouseModel", "house", "(I)I"⟩ ⟨"RungHouseModel", "house", "(I)I"⟩ : Cond) ∈ gt := gt_of (ck_5 (i := 75) rfl) rfl
set_option maxRecDepth 20000 in
theorem wd_1036 : (Jvm.Cond.code ⟨"RungHouseModel", "house", "(I)I"⟩ prog_10_method_20_code 3 (Option.some FieldType.int) : Cond) ∈ gt := gt_of (ck_5 (i := 76) rfl) rfl
set_option maxRecDepth 20000 in
theorem wd_1037 : (Jvm.Cond.constant "RungHouseModel" 197 (-1000000001 : Int32) : Cond) ∈ gt := gt_of (ck_5 (i := 77) rfl) rfl
set_option maxRecDepth 20000 in
theorem wd_1038 : (Jvm.Cond.methodLink "RungHouseModel" 131 ⟨"RungHouseModel", "here", "()I"⟩ : Cond) ∈ gt := gt_of (ck_5 (i := 78) rfl) rfl
set_option maxRecDepth 20000 in
theorem wd_1040 : (Jvm.Cond.instanceMethod ⟨"RungHouseModel", "here", "()I"⟩ : Cond) ∈ gt := gt_of (ck_5 (i := 80) rfl) rfl
set_option maxRecDepth 20000 in
theorem wd_1041 : (Jvm.Cond.code ⟨"RungHouseModel", "here", "()I"⟩ prog_10_method_10_code 1 (Option.some FieldType.int) : Cond) ∈ gt := gt_of (ck_5 (i := 81) rfl) rfl
set_option maxRecDepth 20000 in
theorem wd_1042 : (Jvm.Cond.methodLink "RungHouseModel" 198 ⟨"RungHouseModel", "takeHouse", "()I"⟩ : Cond) ∈ gt := gt_of (ck_5 (i := 82) rfl) rfl
set_option maxRecDepth 20000 in
theorem wd_1044 : (Jvm.Cond.instanceMethod ⟨"RungHouseModel", "takeHouse", "()I"⟩ : Cond) ∈ gt := gt_of (ck_5 (i := 84) rfl) rfl
set_option maxRecDepth 20000 in
theorem wd_1045 : (Jvm.Cond.code ⟨"RungHouseModel", "takeHouse", "()I"⟩ prog_10_method_18_code 4 (Option.some FieldType.int) : Cond) ∈ gt := gt_of (ck_5 (i := 85) rfl) rfl
set_option maxRecDepth 20000 in
theorem wd_1046 : (Jvm.Cond.methodLink "RungHouseModel" 178 ⟨"RungHouseModel", "readWord", "()V"⟩ : Cond) ∈ gt := gt_of (ck_5 (i := 86) rfl) rfl
set_option maxRecDepth 20000 in
theorem wd_1048 : (Jvm.Cond.instanceMethod ⟨"RungHouseModel", "readWord", "()V"⟩ : Cond) ∈ gt := gt_of (ck_5 (i := 88) rfl) rfl
set_option maxRecDepth 20000 in
theorem wd_1049 : (Jvm.Cond.code ⟨"RungHouseModel", "readWord", "()V"⟩ prog_10_method_12_code 2 none : Cond) ∈ gt := gt_of (ck_5 (i := 89) rfl) rfl
set_option maxRecDepth 20000 in
theorem wd_1050 : (Jvm.Cond.constantLong "RungHouseModel" 142 (97 : Int64) : Cond) ∈ gt := gt_of (ck_5 (i := 90) rfl) rfl
set_option maxRecDepth 20000 in
theorem wd_1051 : (Jvm.Cond.constantLong "RungHouseModel" 144 (122 : Int64) : Cond) ∈ gt := gt_of (ck_5 (i := 91) rfl) rfl
set_option maxRecDepth 20000 in
theorem wd_1052 : (Jvm.Cond.constantLong "RungHouseModel" 146 (1000000000000 : Int64) : Cond) ∈ gt := gt_of (ck_5 (i := 92) rfl) rfl
set_option maxRecDepth 20000 in
theorem wd_1053 : (Jvm.Cond.constantLong "RungHouseModel" 148 (2000000000000 : Int64) : Cond) ∈ gt := gt_of (ck_5 (i := 93) rfl) rfl
set_option maxRecDepth 20000 in
theorem wd_1054 : (Jvm.Cond.constantLong "RungHouseModel" 150 (27 : Int64) : Cond) ∈ gt := gt_of (ck_5 (i := 94) rfl) rfl
set_option maxRecDepth 20000 in
theorem wd_1055 : (Jvm.Cond.constantLong "RungHouseModel" 152 (96 : Int64) : Cond) ∈ gt := gt_of (ck_5 (i := 95) rfl) rfl
set_option maxRecDepth 20000 in
theorem wd_1056 : (Jvm.Cond.methodLink "RungHouseModel" 181 ⟨"RungHouseModel", "houseClause", "()I"⟩ : Cond) ∈ gt := gt_of (ck_5 (i := 96) rfl) rfl
set_option maxRecDepth 20000 in
theorem wd_1058 : (Jvm.Cond.instanceMethod ⟨"RungHouseModel", "houseClause", "()I"⟩ : Cond) ∈ gt := gt_of (ck_5 (i := 98) rfl) rfl
set_option maxRecDepth 20000 in
theorem wd_1059 : (Jvm.Cond.code ⟨"RungHouseModel", "houseClause", "()I"⟩ prog_10_method_17_code 5 (Option.some FieldType.int) : Cond) ∈ gt := gt_of (ck_5 (i := 99) rfl) rfl
set_option maxRecDepth 20000 in
theorem wd_1060 : (Jvm.Cond.constantLong "RungHouseModel" 168 (583 : Int64) : Cond) ∈ gt := gt_of (ck_5 (i := 100) rfl) rfl
set_option maxRecDepth 20000 in
theorem wd_1061 : (Jvm.Cond.methodLink "RungHouseModel" 170 ⟨"RungHouseModel", "code", "(IIII)J"⟩ : Cond) ∈ gt := gt_of (ck_5 (i := 101) rfl) rfl
set_option maxRecDepth 20000 in
theorem wd_1062 : (Jvm.Cond.static ⟨"RungHouseModel", "code", "(IIII)J"⟩ : Cond) ∈ gt := gt_of (ck_5 (i := 102) rfl) rfl
set_option maxRecDepth 20000 in
theorem wd_1063 : (Jvm.Cond.code ⟨"RungHouseModel", "code", "(IIII)J"⟩ prog_10_method_13_code 4 (Option.some FieldType.long) : Cond) ∈ gt := gt_of (ck_5 (i := 103) rfl) rfl
set_option maxRecDepth 20000 in
theorem wd_1064 : (Jvm.Cond.methodLink "RungHouseModel" 174 ⟨"RungHouseModel", "longer", "(JI)J"⟩ : Cond) ∈ gt := gt_of (ck_5 (i := 104) rfl) rfl
set_option maxRecDepth 20000 in
theorem wd_1065 : (Jvm.Cond.static ⟨"RungHouseModel", "longer", "(JI)J"⟩ : Cond) ∈ gt := gt_of (ck_5 (i := 105) rfl) rfl
set_option maxRecDepth 20000 in
theorem wd_1066 : (Jvm.Cond.code ⟨"RungHouseModel", "longer", "(JI)J"⟩ prog_10_method_14_code 3 (Option.some FieldType.long) : Cond) ∈ gt := gt_of (ck_5 (i := 106) rfl) rfl
set_option maxRecDepth 20000 in
theorem wd_1067 : (Jvm.Cond.methodLink "RungHouseModel" 187 ⟨"RungHouseModel", "has", "(II)Z"⟩ : Cond) ∈ gt := gt_of (ck_5 (i := 107) rfl) rfl
set_option maxRecDepth 20000 in
theorem wd_1068 : (Jvm.Cond.static ⟨"RungHouseModel", "has", "(II)Z"⟩ : Cond) ∈ gt := gt_of (ck_5 (i := 108) rfl) rfl
set_option maxRecDepth 20000 in
theorem wd_1069 : (Jvm.Cond.code ⟨"RungHouseModel", "has", "(II)Z"⟩ prog_10_method_4_code 2 (Option.some FieldType.boolean) : Cond) ∈ gt := gt_of (ck_5 (i := 109) rfl) rfl
set_option maxRecDepth 20000 in
theorem wd_1070 : (Jvm.Cond.methodLink "RungHouseModel" 158 ⟨"RungHouseModel", "fails", "(II)I"⟩ : Cond) ∈ gt := gt_of (ck_5 (i := 110) rfl) rfl
set_option maxRecDepth 20000 in
theorem wd_1072 : (Jvm.Cond.instanceMethod ⟨"RungHouseModel", "fails", "(II)I"⟩ : Cond) ∈ gt := gt_of (ck_5 (i := 112) rfl) rfl
set_option maxRecDepth 20000 in
theorem wd_1073 : (Jvm.Cond.code ⟨"RungHouseModel", "fails", "(II)I"⟩ prog_10_method_11_code 3 (Option.some FieldType.int) : Cond) ∈ gt := gt_of (ck_5 (i := 113) rfl) rfl
set_option maxRecDepth 20000 in
theorem wd_1074 : (Jvm.Cond.methodLink "RungHouseModel" 191 ⟨"RungHouseModel", "takeNumber", "(II)I"⟩ : Cond) ∈ gt := gt_of (ck_5 (i := 114) rfl) rfl
set_option maxRecDepth 20000 in
theorem wd_1076 : (Jvm.Cond.instanceMethod ⟨"RungHouseModel", "takeNumber", "(II)I"⟩ : Cond) ∈ gt := gt_of (ck_5 (i := 116) rfl) rfl
set_option maxRecDepth 20000 in
theorem wd_1077 : (Jvm.Cond.code ⟨"RungHouseModel", "takeNumber", "(II)I"⟩ prog_10_method_15_code 4 (Option.some FieldType.int) : Cond) ∈ gt := gt_of (ck_5 (i := 117) rfl) rfl
set_option maxRecDepth 20000 in
theorem wd_1078 : (Jvm.Cond.constantLong "RungHouseModel" 154 (48 : Int64) : Cond) ∈ gt := gt_of (ck_5 (i := 118) rfl) rfl
set_option maxRecDepth 20000 in
theorem wd_1079 : (Jvm.Cond.constantLong "RungHouseModel" 156 (57 : Int64) : Cond) ∈ gt := gt_of (ck_5 (i := 119) rfl) rfl
set_option maxRecDepth 20000 in
theorem wd_1080 : (Jvm.Cond.methodLink "RungHouseModel" 194 ⟨"RungHouseModel", "takeStop", "()I"⟩ : Cond) ∈ gt := gt_of (ck_5 (i := 120) rfl) rfl
set_option maxRecDepth 20000 in
theorem wd_1082 : (Jvm.Cond.instanceMethod ⟨"RungHouseModel", "takeStop", "()I"⟩ : Cond) ∈ gt := gt_of (ck_5 (i := 122) rfl) rfl
set_option maxRecDepth 20000 in
theorem wd_1083 : (Jvm.Cond.code ⟨"RungHouseModel", "takeStop", "()I"⟩ prog_10_method_16_code 1 (Option.some FieldType.int) : Cond) ∈ gt := gt_of (ck_5 (i := 123) rfl) rfl
set_option maxRecDepth 20000 in
theorem wd_1084 : (Jvm.Cond.methodLink "RungHouseModel" 201 ⟨"RungHouseModel", "copyHouse", "(II)V"⟩ : Cond) ∈ gt := gt_of (ck_5 (i := 124) rfl) rfl
set_option maxRecDepth 20000 in
theorem wd_1086 : (Jvm.Cond.instanceMethod ⟨"RungHouseModel", "copyHouse", "(II)V"⟩ : Cond) ∈ gt := gt_of (ck_5 (i := 126) rfl) rfl
set_option maxRecDepth 20000 in
theorem wd_1087 : (Jvm.Cond.code ⟨"RungHouseModel", "copyHouse", "(II)V"⟩ prog_10_method_19_code 4 none : Cond) ∈ gt := gt_of (ck_5 (i := 127) rfl) rfl
set_option maxRecDepth 20000 in
theorem wd_1088 : (Jvm.Cond.methodLink "RungHouseLaw" 37 ⟨"RungHouseModel", "fault", "()I"⟩ : Cond) ∈ gt := gt_of (ck_5 (i := 128) rfl) rfl
set_option maxRecDepth 20000 in
theorem wd_1089 : (Jvm.Cond.instanceMethod ⟨"RungHouseModel", "fault", "()I"⟩ : Cond) ∈ gt := gt_of (ck_5 (i := 129) rfl) rfl
set_option maxRecDepth 20000 in
theorem wd_1090 : (Jvm.Cond.selects "RungHouseModel" ⟨"RungHouseModel", "fault", "()I"⟩ ⟨"RungHouseModel", "fault", "()I"⟩ : Cond) ∈ gt := gt_of (ck_5 (i := 130) rfl) rfl
set_option maxRecDepth 20000 in
theorem wd_1091 : (Jvm.Cond.code ⟨"RungHouseModel", "fault", "()I"⟩ prog_10_method_21_code 1 (Option.some FieldType.int) : Cond) ∈ gt := gt_of (ck_5 (i := 131) rfl) rfl
set_option maxRecDepth 20000 in
theorem wd_1092 : (Jvm.Cond.methodLink "RungHouseLaw" 42 ⟨"RungHouseModel", "told", "(II)I"⟩ : Cond) ∈ gt := gt_of (ck_5 (i := 132) rfl) rfl
set_option maxRecDepth 20000 in
theorem wd_1093 : (Jvm.Cond.instanceMethod ⟨"RungHouseModel", "told", "(II)I"⟩ : Cond) ∈ gt := gt_of (ck_5 (i := 133) rfl) rfl
set_option maxRecDepth 20000 in
theorem wd_1094 : (Jvm.Cond.selects "RungHouseModel" ⟨"RungHouseModel", "told", "(II)I"⟩ ⟨"RungHouseModel", "told", "(II)I"⟩ : Cond) ∈ gt := gt_of (ck_5 (i := 134) rfl) rfl
set_option maxRecDepth 20000 in
theorem wd_1095 : (Jvm.Cond.code ⟨"RungHouseModel", "told", "(II)I"⟩ prog_10_method_22_code 3 (Option.some FieldType.int) : Cond) ∈ gt := gt_of (ck_5 (i := 135) rfl) rfl
set_option maxRecDepth 20000 in
theorem wd_1096 : (Jvm.Cond.methodLink "RungHouseModel" 113 ⟨"RungHouseModel", "isHouse", "(I)Z"⟩ : Cond) ∈ gt := gt_of (ck_5 (i := 136) rfl) rfl
set_option maxRecDepth 20000 in
theorem wd_1098 : (Jvm.Cond.instanceMethod ⟨"RungHouseModel", "isHouse", "(I)Z"⟩ : Cond) ∈ gt := gt_of (ck_5 (i := 138) rfl) rfl
set_option maxRecDepth 20000 in
theorem wd_1099 : (Jvm.Cond.code ⟨"RungHouseModel", "isHouse", "(I)Z"⟩ prog_10_method_5_code 2 (Option.some FieldType.boolean) : Cond) ∈ gt := gt_of (ck_5 (i := 139) rfl) rfl
set_option maxRecDepth 20000 in
theorem wd_1100 : (Jvm.Cond.methodLink "RungHouseLaw" 46 ⟨"RungHouseModel", "pays", "(II)I"⟩ : Cond) ∈ gt := gt_of (ck_5 (i := 140) rfl) rfl
set_option maxRecDepth 20000 in
theorem wd_1101 : (Jvm.Cond.instanceMethod ⟨"RungHouseModel", "pays", "(II)I"⟩ : Cond) ∈ gt := gt_of (ck_5 (i := 141) rfl) rfl
set_option maxRecDepth 20000 in
theorem wd_1102 : (Jvm.Cond.selects "RungHouseModel" ⟨"RungHouseModel", "pays", "(II)I"⟩ ⟨"RungHouseModel", "pays", "(II)I"⟩ : Cond) ∈ gt := gt_of (ck_5 (i := 142) rfl) rfl
set_option maxRecDepth 20000 in
theorem wd_1103 : (Jvm.Cond.code ⟨"RungHouseModel", "pays", "(II)I"⟩ prog_10_method_23_code 3 (Option.some FieldType.int) : Cond) ∈ gt := gt_of (ck_5 (i := 143) rfl) rfl
set_option maxRecDepth 20000 in
theorem wd_1104 : (Jvm.Cond.methodLink "RungHouseModel" 209 ⟨"RungHouseModel", "isRung", "(II)Z"⟩ : Cond) ∈ gt := gt_of (ck_5 (i := 144) rfl) rfl
set_option maxRecDepth 20000 in
theorem wd_1106 : (Jvm.Cond.instanceMethod ⟨"RungHouseModel", "isRung", "(II)Z"⟩ : Cond) ∈ gt := gt_of (ck_5 (i := 146) rfl) rfl
set_option maxRecDepth 20000 in
theorem wd_1107 : (Jvm.Cond.code ⟨"RungHouseModel", "isRung", "(II)Z"⟩ prog_10_method_6_code 3 (Option.some FieldType.boolean) : Cond) ∈ gt := gt_of (ck_5 (i := 147) rfl) rfl
set_option maxRecDepth 20000 in
theorem wd_1108 : (Jvm.Cond.methodLink "RungHouseLaw" 51 ⟨"RungHouseModel", "next", "(III)I"⟩ : Cond) ∈ gt := gt_of (ck_5 (i := 148) rfl) rfl
set_option maxRecDepth 20000 in
theorem wd_1109 : (Jvm.Cond.instanceMethod ⟨"RungHouseModel", "next", "(III)I"⟩ : Cond) ∈ gt := gt_of (ck_5 (i := 149) rfl) rfl
set_option maxRecDepth 20000 in
theorem wd_1110 : (Jvm.Cond.selects "RungHouseModel" ⟨"RungHouseModel", "next", "(III)I"⟩ ⟨"RungHouseModel", "next", "(III)I"⟩ : Cond) ∈ gt := gt_of (ck_5 (i := 150) rfl) rfl
set_option maxRecDepth 20000 in
theorem wd_1111 : (Jvm.Cond.code ⟨"RungHouseModel", "next", "(III)I"⟩ prog_10_method_25_code 4 (Option.some FieldType.int) : Cond) ∈ gt := gt_of (ck_5 (i := 151) rfl) rfl
set_option maxRecDepth 20000 in
theorem wd_1112 : (Jvm.Cond.constantLong "RungHouseModel" 212 (3 : Int64) : Cond) ∈ gt := gt_of (ck_5 (i := 152) rfl) rfl
set_option maxRecDepth 20000 in
theorem wd_1113 : (Jvm.Cond.methodLink "RungHouseModel" 214 ⟨"RungHouseModel", "nextOf", "(III)I"⟩ : Cond) ∈ gt := gt_of (ck_5 (i := 153) rfl) rfl
set_option maxRecDepth 20000 in
theorem wd_1115 : (Jvm.Cond.instanceMethod ⟨"RungHouseModel", "nextOf", "(III)I"⟩ : Cond) ∈ gt := gt_of (ck_5 (i := 155) rfl) rfl
set_option maxRecDepth 20000 in
theorem wd_1116 : (Jvm.Cond.code ⟨"RungHouseModel", "nextOf", "(III)I"⟩ prog_10_method_24_code 5 (Option.some FieldType.int) : Cond) ∈ gt := gt_of (ck_5 (i := 156) rfl) rfl
set_option maxRecDepth 20000 in
theorem wd_1117 : (Jvm.Cond.methodLink "RungHouseLaw" 29 ⟨"RungHouseModel", "sort", "()I"⟩ : Cond) ∈ gt := gt_of (ck_5 (i := 157) rfl) rfl
set_option maxRecDepth 20000 in
theorem wd_1118 : (Jvm.Cond.instanceMethod ⟨"RungHouseModel", "sort", "()I"⟩ : Cond) ∈ gt := gt_of (ck_5 (i := 158) rfl) rfl
set_option maxRecDepth 20000 in
theorem wd_1119 : (Jvm.Cond.selects "RungHouseModel" ⟨"RungHouseModel", "sort", "()I"⟩ ⟨"RungHouseModel", "sort", "()I"⟩ : Cond) ∈ gt := gt_of (ck_5 (i := 159) rfl) rfl
set_option maxRecDepth 20000 in
theorem wd_1120 : (Jvm.Cond.code ⟨"RungHouseModel", "sort", "()I"⟩ prog_10_method_29_code 2 (Option.some FieldType.int) : Cond) ∈ gt := gt_of (ck_5 (i := 160) rfl) rfl
set_option maxRecDepth 20000 in
theorem wd_1121 : (Jvm.Cond.constant "RungHouseModel" 227 (-1000000003 : Int32) : Cond) ∈ gt := gt_of (ck_5 (i := 161) rfl) rfl
set_option maxRecDepth 20000 in
theorem wd_1122 : (Jvm.Cond.methodLink "RungHouseModel" 228 ⟨"RungHouseModel", "takeSort", "()I"⟩ : Cond) ∈ gt := gt_of (ck_5 (i := 162) rfl) rfl
set_option maxRecDepth 20000 in
theorem wd_1124 : (Jvm.Cond.instanceMethod ⟨"RungHouseModel", "takeSort", "()I"⟩ : Cond) ∈ gt := gt_of (ck_5 (i := 164) rfl) rfl
set_option maxRecDepth 20000 in
theorem wd_1125 : (Jvm.Cond.code ⟨"RungHouseModel", "takeSort", "()I"⟩ prog_10_method_28_code 3 (Option.some FieldType.int) : Cond) ∈ gt := gt_of (ck_5 (i := 165) rfl) rfl
set_option maxRecDepth 20000 in
theorem wd_1126 : (Jvm.Cond.methodLink "RungHouseModel" 221 ⟨"RungHouseModel", "takeScrape", "()I"⟩ : Cond) ∈ gt := gt_of (ck_5 (i := 166) rfl) rfl
set_option maxRecDepth 20000 in
theorem wd_1128 : (Jvm.Cond.instanceMethod ⟨"RungHouseModel", "takeScrape", "()I"⟩ : Cond) ∈ gt := gt_of (ck_5 (i := 168) rfl) rfl
set_option maxRecDepth 20000 in
theorem wd_1129 : (Jvm.Cond.code ⟨"RungHouseModel", "takeScrape", "()I"⟩ prog_10_method_26_code 4 (Option.some FieldType.int) : Cond) ∈ gt := gt_of (ck_5 (i := 169) rfl) rfl
set_option maxRecDepth 20000 in
theorem wd_1130 : (Jvm.Cond.methodLink "RungHouseModel" 224 ⟨"RungHouseModel", "takePains", "()I"⟩ : Cond) ∈ gt := gt_of (ck_5 (i := 170) rfl) rfl
set_option maxRecDepth 20000 in
theorem wd_1132 : (Jvm.Cond.instanceMethod ⟨"RungHouseModel", "takePains", "()I"⟩ : Cond) ∈ gt := gt_of (ck_5 (i := 172) rfl) rfl
set_option maxRecDepth 20000 in
theorem wd_1133 : (Jvm.Cond.code ⟨"RungHouseModel", "takePains", "()I"⟩ prog_10_method_27_code 2 (Option.some FieldType.int) : Cond) ∈ gt := gt_of (ck_5 (i := 173) rfl) rfl
set_option maxRecDepth 20000 in
theorem wd_1134 : (Jvm.Cond.methodLink "RungHouseLaw" 55 ⟨"RungHouseModel", "scrapes", "(II)I"⟩ : Cond) ∈ gt := gt_of (ck_5 (i := 174) rfl) rfl
set_option maxRecDepth 20000 in
theorem wd_1135 : (Jvm.Cond.instanceMethod ⟨"RungHouseModel", "scrapes", "(II)I"⟩ : Cond) ∈ gt := gt_of (ck_5 (i := 175) rfl) rfl
set_option maxRecDepth 20000 in
theorem wd_1136 : (Jvm.Cond.selects "RungHouseModel" ⟨"RungHouseModel", "scrapes", "(II)I"⟩ ⟨"RungHouseModel", "scrapes", "(II)I"⟩ : Cond) ∈ gt := gt_of (ck_5 (i := 176) rfl) rfl
set_option maxRecDepth 20000 in
theorem wd_1137 : (Jvm.Cond.code ⟨"RungHouseModel", "scrapes", "(II)I"⟩ prog_10_method_32_code 4 (Option.some FieldType.int) : Cond) ∈ gt := gt_of (ck_5 (i := 177) rfl) rfl
set_option maxRecDepth 20000 in
theorem wd_1138 : (Jvm.Cond.methodLink "RungHouseModel" 235 ⟨"RungHouseModel", "isSort", "(I)Z"⟩ : Cond) ∈ gt := gt_of (ck_5 (i := 178) rfl) rfl
set_option maxRecDepth 20000 in
theorem wd_1140 : (Jvm.Cond.instanceMethod ⟨"RungHouseModel", "isSort", "(I)Z"⟩ : Cond) ∈ gt := gt_of (ck_5 (i := 180) rfl) rfl
set_option maxRecDepth 20000 in
theorem wd_1141 : (Jvm.Cond.code ⟨"RungHouseModel", "isSort", "(I)Z"⟩ prog_10_method_7_code 2 (Option.some FieldType.boolean) : Cond) ∈ gt := gt_of (ck_5 (i := 181) rfl) rfl
set_option maxRecDepth 20000 in
theorem wd_1142 : (Jvm.Cond.constantLong "RungHouseModel" 238 (19 : Int64) : Cond) ∈ gt := gt_of (ck_5 (i := 182) rfl) rfl
set_option maxRecDepth 20000 in
theorem wd_1143 : (Jvm.Cond.methodLink "RungHouseModel" 240 ⟨"RungHouseModel", "sumOdds", "(IZ)I"⟩ : Cond) ∈ gt := gt_of (ck_5 (i := 183) rfl) rfl
set_option maxRecDepth 20000 in
theorem wd_1145 : (Jvm.Cond.instanceMethod ⟨"RungHouseModel", "sumOdds", "(IZ)I"⟩ : Cond) ∈ gt := gt_of (ck_5 (i := 185) rfl) rfl
set_option maxRecDepth 20000 in
theorem wd_1146 : (Jvm.Cond.code ⟨"RungHouseModel", "sumOdds", "(IZ)I"⟩ prog_10_method_30_code 5 (Option.some FieldType.int) : Cond) ∈ gt := gt_of (ck_5 (i := 186) rfl) rfl
set_option maxRecDepth 20000 in
theorem wd_1147 : (Jvm.Cond.methodLink "RungHouseModel" 231 ⟨"RungHouseModel", "oddsOf", "(IIZ)I"⟩ : Cond) ∈ gt := gt_of (ck_5 (i := 187) rfl) rfl
set_option maxRecDepth 20000 in
theorem wd_1149 : (Jvm.Cond.instanceMethod ⟨"RungHouseModel", "oddsOf", "(IIZ)I"⟩ : Cond) ∈ gt := gt_of (ck_5 (i := 189) rfl) rfl
set_option maxRecDepth 20000 in
theorem wd_1150 : (Jvm.Cond.code ⟨"RungHouseModel", "oddsOf", "(IIZ)I"⟩ prog_10_method_31_code 4 (Option.some FieldType.int) : Cond) ∈ gt := gt_of (ck_5 (i := 190) rfl) rfl
set_option maxRecDepth 20000 in
theorem wd_1151 : (Jvm.Cond.methodLink "RungHouseLaw" 33 ⟨"RungHouseModel", "rule", "()I"⟩ : Cond) ∈ gt := gt_of (ck_5 (i := 191) rfl) rfl
set_option maxRecDepth 20000 in
theorem wd_1152 : (Jvm.Cond.instanceMethod ⟨"RungHouseModel", "rule", "()I"⟩ : Cond) ∈ gt := gt_of (ck_5 (i := 192) rfl) rfl
set_option maxRecDepth 20000 in
theorem wd_1153 : (Jvm.Cond.selects "RungHouseModel" ⟨"RungHouseModel", "rule", "()I"⟩ ⟨"RungHouseModel", "rule", "()I"⟩ : Cond) ∈ gt := gt_of (ck_5 (i := 193) rfl) rfl
set_option maxRecDepth 20000 in
theorem wd_1154 : (Jvm.Cond.code ⟨"RungHouseModel", "rule", "()I"⟩ prog_10_method_35_code 2 (Option.some FieldType.int) : Cond) ∈ gt := gt_of (ck_5 (i := 194) rfl) rfl
set_option maxRecDepth 20000 in
theorem wd_1155 : (Jvm.Cond.methodLink "RungHouseModel" 252 ⟨"RungHouseModel", "takeRule", "()I"⟩ : Cond) ∈ gt := gt_of (ck_5 (i := 195) rfl) rfl
set_option maxRecDepth 20000 in
theorem wd_1157 : (Jvm.Cond.instanceMethod ⟨"RungHouseModel", "takeRule", "()I"⟩ : Cond) ∈ gt := gt_of (ck_5 (i := 197) rfl) rfl
set_option maxRecDepth 20000 in
theorem wd_1158 : (Jvm.Cond.code ⟨"RungHouseModel", "takeRule", "()I"⟩ prog_10_method_34_code 7 (Option.some FieldType.int) : Cond) ∈ gt := gt_of (ck_5 (i := 198) rfl) rfl
set_option maxRecDepth 20000 in
theorem wd_1159 : (Jvm.Cond.constantLong "RungHouseModel" 244 (1503 : Int64) : Cond) ∈ gt := gt_of (ck_5 (i := 199) rfl) rfl
set_option maxRecDepth 20000 in
theorem wd_1160 : (Jvm.Cond.methodLink "RungHouseModel" 249 ⟨"RungHouseModel", "takeSpan", "(II)I"⟩ : Cond) ∈ gt := gt_of (ck_5 (i := 200) rfl) rfl
set_option maxRecDepth 20000 in
theorem wd_1162 : (Jvm.Cond.instanceMethod ⟨"RungHouseModel", "takeSpan", "(II)I"⟩ : Cond) ∈ gt := gt_of (ck_5 (i := 202) rfl) rfl
set_option maxRecDepth 20000 in
theorem wd_1163 : (Jvm.Cond.code ⟨"RungHouseModel", "takeSpan", "(II)I"⟩ prog_10_method_33_code 4 (Option.some FieldType.int) : Cond) ∈ gt := gt_of (ck_5 (i := 203) rfl) rfl
set_option maxRecDepth 20000 in
theorem wd_1164 : (Jvm.Cond.methodLink "RungHouseLaw" 60 ⟨"RungHouseModel", "cost", "(IIIII)I"⟩ : Cond) ∈ gt := gt_of (ck_5 (i := 204) rfl) rfl
set_option maxRecDepth 20000 in
theorem wd_1165 : (Jvm.Cond.instanceMethod ⟨"RungHouseModel", "cost", "(IIIII)I"⟩ : Cond) ∈ gt := gt_of (ck_5 (i := 205) rfl) rfl
set_option maxRecDepth 20000 in
theorem wd_1166 : (Jvm.Cond.selects "RungHouseModel" ⟨"RungHouseModel", "cost", "(IIIII)I"⟩ ⟨"RungHouseModel", "cost", "(IIIII)I"⟩ : Cond) ∈ gt := gt_of (ck_5 (i := 206) rfl) rfl
set_option maxRecDepth 20000 in
theorem wd_1167 : (Jvm.Cond.code ⟨"RungHouseModel", "cost", "(IIIII)I"⟩ prog_10_method_48_code 6 (Option.some FieldType.int) : Cond) ∈ gt := gt_of (ck_5 (i := 207) rfl) rfl
set_option maxRecDepth 20000 in
theorem wd_1168 : (Jvm.Cond.methodLink "RungHouseModel" 305 ⟨"RungHouseModel", "isTime", "(I)Z"⟩ : Cond) ∈ gt := gt_of (ck_5 (i := 208) rfl) rfl
set_option maxRecDepth 20000 in
theorem wd_1169 : (Jvm.Cond.static ⟨"RungHouseModel", "isTime", "(I)Z"⟩ : Cond) ∈ gt := gt_of (ck_5 (i := 209) rfl) rfl
set_option maxRecDepth 20000 in
theorem wd_1170 : (Jvm.Cond.code ⟨"RungHouseModel", "isTime", "(I)Z"⟩ prog_10_method_8_code 1 (Option.some FieldType.boolean) : Cond) ∈ gt := gt_of (ck_5 (i := 210) rfl) rfl
set_option maxRecDepth 20000 in
theorem wd_1171 : (Jvm.Cond.constantLong "RungHouseModel" 117 (30 : Int64) : Cond) ∈ gt := gt_of (ck_5 (i := 211) rfl) rfl
set_option maxRecDepth 20000 in
theorem wd_1172 : (Jvm.Cond.methodLink "RungHouseModel" 308 ⟨"RungHouseModel", "work", "(IIII)V"⟩ : Cond) ∈ gt := gt_of (ck_5 (i := 212) rfl) rfl
set_option maxRecDepth 20000 in
theorem wd_1174 : (Jvm.Cond.instanceMethod ⟨"RungHouseModel", "work", "(IIII)V"⟩ : Cond) ∈ gt := gt_of (ck_5 (i := 214) rfl) rfl
set_option maxRecDepth 20000 in
theorem wd_1175 : (Jvm.Cond.code ⟨"RungHouseModel", "work", "(IIII)V"⟩ prog_10_method_47_code 7 none : Cond) ∈ gt := gt_of (ck_5 (i := 215) rfl) rfl
set_option maxRecDepth 20000 in
theorem wd_1176 : (Jvm.Cond.methodLink "RungHouseModel" 298 ⟨"RungHouseModel", "fillYear", "(III)V"⟩ : Cond) ∈ gt := gt_of (ck_5 (i := 216) rfl) rfl
set_option maxRecDepth 20000 in
theorem wd_1178 : (Jvm.Cond.instanceMethod ⟨"RungHouseModel", "fillYear", "(III)V"⟩ : Cond) ∈ gt := gt_of (ck_5 (i := 218) rfl) rfl
set_option maxRecDepth 20000 in
theorem wd_1179 : (Jvm.Cond.code ⟨"RungHouseModel", "fillYear", "(III)V"⟩ prog_10_method_42_code 13 none : Cond) ∈ gt := gt_of (ck_5 (i := 219) rfl) rfl
set_option maxRecDepth 20000 in
theorem wd_1180 : (Jvm.Cond.methodLink "RungHouseModel" 272 ⟨"RungHouseModel", "place", "(IIIII)I"⟩ : Cond) ∈ gt := gt_of (ck_5 (i := 220) rfl) rfl
set_option maxRecDepth 20000 in
theorem wd_1181 : (Jvm.Cond.static ⟨"RungHouseModel", "place", "(IIIII)I"⟩ : Cond) ∈ gt := gt_of (ck_5 (i := 221) rfl) rfl
set_option maxRecDepth 20000 in
theorem wd_1182 : (Jvm.Cond.code ⟨"RungHouseModel", "place", "(IIIII)I"⟩ prog_10_method_38_code 5 (Option.some FieldType.int) : Cond) ∈ gt := gt_of (ck_5 (i := 222) rfl) rfl
set_option maxRecDepth 20000 in
theorem wd_1183 : (Jvm.Cond.constantLong "RungHouseModel" 276 (1000 : Int64) : Cond) ∈ gt := gt_of (ck_5 (i := 223) rfl) rfl
set_option maxRecDepth 20000 in
theorem wd_1184 : (Jvm.Cond.methodLink "RungHouseModel" 281 ⟨"RungHouseModel", "asks", "(IIIIII)Z"⟩ : Cond) ∈ gt := gt_of (ck_5 (i := 224) rfl) rfl
set_option maxRecDepth 20000 in
theorem wd_1186 : (Jvm.Cond.instanceMethod ⟨"RungHouseModel", "asks", "(IIIIII)Z"⟩ : Cond) ∈ gt := gt_of (ck_5 (i := 226) rfl) rfl
set_option maxRecDepth 20000 in
theorem wd_1187 : (Jvm.Cond.code ⟨"RungHouseModel", "asks", "(IIIIII)Z"⟩ prog_10_method_41_code 8 (Option.some FieldType.boolean) : Cond) ∈ gt := gt_of (ck_5 (i := 227) rfl) rfl
set_option maxRecDepth 20000 in
theorem wd_1188 : (Jvm.Cond.methodLink "RungHouseModel" 261 ⟨"RungHouseModel", "asksBy", "(IIII)Z"⟩ : Cond) ∈ gt := gt_of (ck_5 (i := 228) rfl) rfl
set_option maxRecDepth 20000 in
theorem wd_1190 : (Jvm.Cond.instanceMethod ⟨"RungHouseModel", "asksBy", "(IIII)Z"⟩ : Cond) ∈ gt := gt_of (ck_5 (i := 230) rfl) rfl
set_option maxRecDepth 20000 in
theorem wd_1191 : (Jvm.Cond.code ⟨"RungHouseModel", "asksBy", "(IIII)Z"⟩ prog_10_method_37_code 7 (Option.some FieldType.boolean) : Cond) ∈ gt := gt_of (ck_5 (i := 231) rfl) rfl
set_option maxRecDepth 20000 in
theorem wd_1192 : (Jvm.Cond.methodLink "RungHouseModel" 265 ⟨"RungHouseModel", "bears", "(I)I"⟩ : Cond) ∈ gt := gt_of (ck_5 (i := 232) rfl) rfl
set_option maxRecDepth 20000 in
theorem wd_1194 : (Jvm.Cond.instanceMethod ⟨"RungHouseModel", "bears", "(I)I"⟩ : Cond) ∈ gt := gt_of (ck_5 (i := 234) rfl) rfl
set_option maxRecDepth 20000 in
theorem wd_1195 : (Jvm.Cond.code ⟨"RungHouseModel", "bears", "(I)I"⟩ prog_10_method_40_code 2 (Option.some FieldType.int) : Cond) ∈ gt := gt_of (ck_5 (i := 235) rfl) rfl
set_option maxRecDepth 20000 in
theorem wd_1196 : (Jvm.Cond.methodLink "RungHouseModel" 269 ⟨"RungHouseModel", "more", "(I)I"⟩ : Cond) ∈ gt := gt_of (ck_5 (i := 236) rfl) rfl
set_option maxRecDepth 20000 in
theorem wd_1198 : (Jvm.Cond.instanceMethod ⟨"RungHouseModel", "more", "(I)I"⟩ : Cond) ∈ gt := gt_of (ck_5 (i := 238) rfl) rfl
set_option maxRecDepth 20000 in
theorem wd_1199 : (Jvm.Cond.code ⟨"RungHouseModel", "more", "(I)I"⟩ prog_10_method_39_code 2 (Option.some FieldType.int) : Cond) ∈ gt := gt_of (ck_5 (i := 239) rfl) rfl
set_option maxRecDepth 20000 in
theorem wd_1200 : (Jvm.Cond.methodLink "RungHouseModel" 285 ⟨"RungHouseModel", "canPain", "()Z"⟩ : Cond) ∈ gt := gt_of (ck_6 (i := 0) rfl) rfl
set_option maxRecDepth 20000 in
theorem wd_1202 : (Jvm.Cond.instanceMethod ⟨"RungHouseModel", "canPain", "()Z"⟩ : Cond) ∈ gt := gt_of (ck_6 (i := 2) rfl) rfl
set_option maxRecDepth 20000 in
theorem wd_1203 : (Jvm.Cond.code ⟨"RungHouseModel", "canPain", "()Z"⟩ prog_10_method_43_code 1 (Option.some FieldType.boolean) : Cond) ∈ gt := gt_of (ck_6 (i := 3) rfl) rfl
set_option maxRecDepth 20000 in
theorem wd_1204 : (Jvm.Cond.methodLink "RungHouseModel" 302 ⟨"RungHouseModel", "isPained", "(II)Z"⟩ : Cond) ∈ gt := gt_of (ck_6 (i := 4) rfl) rfl
set_option maxRecDepth 20000 in
theorem wd_1206 : (Jvm.Cond.instanceMethod ⟨"RungHouseModel", "isPained", "(II)Z"⟩ : Cond) ∈ gt := gt_of (ck_6 (i := 6) rfl) rfl
set_option maxRecDepth 20000 in
theorem wd_1207 : (Jvm.Cond.code ⟨"RungHouseModel", "isPained", "(II)Z"⟩ prog_10_method_46_code 3 (Option.some FieldType.boolean) : Cond) ∈ gt := gt_of (ck_6 (i := 7) rfl) rfl
set_option maxRecDepth 20000 in
theorem wd_1208 : (Jvm.Cond.methodLink "RungHouseModel" 289 ⟨"RungHouseModel", "painsAt", "(II)I"⟩ : Cond) ∈ gt := gt_of (ck_6 (i := 8) rfl) rfl
set_option maxRecDepth 20000 in
theorem wd_1210 : (Jvm.Cond.instanceMethod ⟨"RungHouseModel", "painsAt", "(II)I"⟩ : Cond) ∈ gt := gt_of (ck_6 (i := 10) rfl) rfl
set_option maxRecDepth 20000 in
theorem wd_1211 : (Jvm.Cond.code ⟨"RungHouseModel", "painsAt", "(II)I"⟩ prog_10_method_44_code 3 (Option.some FieldType.int) : Cond) ∈ gt := gt_of (ck_6 (i := 11) rfl) rfl
set_option maxRecDepth 20000 in
theorem wd_1212 : (Jvm.Cond.methodLink "RungHouseModel" 292 ⟨"RungHouseModel", "plainAt", "(II)I"⟩ : Cond) ∈ gt := gt_of (ck_6 (i := 12) rfl) rfl
set_option maxRecDepth 20000 in
theorem wd_1214 : (Jvm.Cond.instanceMethod ⟨"RungHouseModel", "plainAt", "(II)I"⟩ : Cond) ∈ gt := gt_of (ck_6 (i := 14) rfl) rfl
set_option maxRecDepth 20000 in
theorem wd_1215 : (Jvm.Cond.code ⟨"RungHouseModel", "plainAt", "(II)I"⟩ prog_10_method_45_code 3 (Option.some FieldType.int) : Cond) ∈ gt := gt_of (ck_6 (i := 15) rfl) rfl
set_option maxRecDepth 20000 in
theorem wd_1216 : (Jvm.Cond.methodLink "RungHouseLaw" 65 ⟨"RungHouseModel", "in", "(IIIIIIIZ)I"⟩ : Cond) ∈ gt := gt_of (ck_6 (i := 16) rfl) rfl
set_option maxRecDepth 20000 in
theorem wd_1217 : (Jvm.Cond.instanceMethod ⟨"RungHouseModel", "in", "(IIIIIIIZ)I"⟩ : Cond) ∈ gt := gt_of (ck_6 (i := 17) rfl) rfl
set_option maxRecDepth 20000 in
theorem wd_1218 : (Jvm.Cond.selects "RungHouseModel" ⟨"RungHouseModel", "in", "(IIIIIIIZ)I"⟩ ⟨"RungHouseModel", "in", "(IIIIIIIZ)I"⟩ : Cond) ∈ gt := gt_of (ck_6 (i := 18) rfl) rfl
set_option maxRecDepth 20000 in
theorem wd_1219 : (Jvm.Cond.code ⟨"RungHouseModel", "in", "(IIIIIIIZ)I"⟩ prog_10_method_51_code 9 (Option.some FieldType.int) : Cond) ∈ gt := gt_of (ck_6 (i := 19) rfl) rfl
set_option maxRecDepth 20000 in
theorem wd_1220 : (Jvm.Cond.methodLink "RungHouseModel" 312 ⟨"RungHouseModel", "isWhen", "(II)Z"⟩ : Cond) ∈ gt := gt_of (ck_6 (i := 20) rfl) rfl
set_option maxRecDepth 20000 in
theorem wd_1222 : (Jvm.Cond.instanceMethod ⟨"RungHouseModel", "isWhen", "(II)Z"⟩ : Cond) ∈ gt := gt_of (ck_6 (i := 22) rfl) rfl
set_option maxRecDepth 20000 in
theorem wd_1223 : (Jvm.Cond.code ⟨"RungHouseModel", "isWhen", "(II)Z"⟩ prog_10_method_49_code 3 (Option.some FieldType.boolean) : Cond) ∈ gt := gt_of (ck_6 (i := 23) rfl) rfl
set_option maxRecDepth 20000 in
theorem wd_1224 : (Jvm.Cond.constantLong "RungHouseModel" 315 (12 : Int64) : Cond) ∈ gt := gt_of (ck_6 (i := 24) rfl) rfl
set_option maxRecDepth 20000 in
theorem wd_1225 : (Jvm.Cond.methodLink "RungHouseModel" 317 ⟨"RungHouseModel", "painOf", "(Z)I"⟩ : Cond) ∈ gt := gt_of (ck_6 (i := 25) rfl) rfl
set_option maxRecDepth 20000 in
theorem wd_1227 : (Jvm.Cond.instanceMethod ⟨"RungHouseModel", "painOf", "(Z)I"⟩ : Cond) ∈ gt := gt_of (ck_6 (i := 27) rfl) rfl
set_option maxRecDepth 20000 in
theorem wd_1228 : (Jvm.Cond.code ⟨"RungHouseModel", "painOf", "(Z)I"⟩ prog_10_method_50_code 2 (Option.some FieldType.int) : Cond) ∈ gt := gt_of (ck_6 (i := 28) rfl) rfl
set_option maxRecDepth 20000 in
theorem wd_1229 : (Jvm.Cond.methodLink "RungHouseLaw" 69 ⟨"RungHouseModel", "takes", "(IIIII)I"⟩ : Cond) ∈ gt := gt_of (ck_6 (i := 29) rfl) rfl
set_option maxRecDepth 20000 in
theorem wd_1230 : (Jvm.Cond.instanceMethod ⟨"RungHouseModel", "takes", "(IIIII)I"⟩ : Cond) ∈ gt := gt_of (ck_6 (i := 30) rfl) rfl
set_option maxRecDepth 20000 in
theorem wd_1231 : (Jvm.Cond.selects "RungHouseModel" ⟨"RungHouseModel", "takes", "(IIIII)I"⟩ ⟨"RungHouseModel", "takes", "(IIIII)I"⟩ : Cond) ∈ gt := gt_of (ck_6 (i := 31) rfl) rfl
set_option maxRecDepth 20000 in
theorem wd_1232 : (Jvm.Cond.code ⟨"RungHouseModel", "takes", "(IIIII)I"⟩ prog_10_method_52_code 6 (Option.some FieldType.int) : Cond) ∈ gt := gt_of (ck_6 (i := 32) rfl) rfl
set_option maxRecDepth 20000 in
theorem wd_1233 : (Jvm.Cond.methodLink "RungHouseLaw" 73 ⟨"RungHouseModel", "bar", "(IIIIIIIZ)I"⟩ : Cond) ∈ gt := gt_of (ck_6 (i := 33) rfl) rfl
set_option maxRecDepth 20000 in
theorem wd_1234 : (Jvm.Cond.instanceMethod ⟨"RungHouseModel", "bar", "(IIIIIIIZ)I"⟩ : Cond) ∈ gt := gt_of (ck_6 (i := 34) rfl) rfl
set_option maxRecDepth 20000 in
theorem wd_1235 : (Jvm.Cond.selects "RungHouseModel" ⟨"RungHouseModel", "bar", "(IIIIIIIZ)I"⟩ ⟨"RungHouseModel", "bar", "(IIIIIIIZ)I"⟩ : Cond) ∈ gt := gt_of (ck_6 (i := 35) rfl) rfl
set_option maxRecDepth 20000 in
theorem wd_1236 : (Jvm.Cond.code ⟨"RungHouseModel", "bar", "(IIIIIIIZ)I"⟩ prog_10_method_53_code 10 (Option.some FieldType.int) : Cond) ∈ gt := gt_of (ck_6 (i := 36) rfl) rfl
set_option maxRecDepth 20000 in
theorem wd_1237 : (Jvm.Cond.constantLong "RungHouseModel" 321 (11 : Int64) : Cond) ∈ gt := gt_of (ck_6 (i := 37) rfl) rfl
set_option maxRecDepth 20000 in
theorem wd_1238 : (Jvm.Cond.methodLink "RungHouseLaw" 78 ⟨"RungHouseModel", "fixed", "(IIIIII)I"⟩ : Cond) ∈ gt := gt_of (ck_6 (i := 38) rfl) rfl
set_option maxRecDepth 20000 in
theorem wd_1239 : (Jvm.Cond.instanceMethod ⟨"RungHouseModel", "fixed", "(IIIIII)I"⟩ : Cond) ∈ gt := gt_of (ck_6 (i := 39) rfl) rfl
set_option maxRecDepth 20000 in
theorem wd_1240 : (Jvm.Cond.selects "RungHouseModel" ⟨"RungHouseModel", "fixed", "(IIIIII)I"⟩ ⟨"RungHouseModel", "fixed", "(IIIIII)I"⟩ : Cond) ∈ gt := gt_of (ck_6 (i := 40) rfl) rfl
set_option maxRecDepth 20000 in
theorem wd_1241 : (Jvm.Cond.code ⟨"RungHouseModel", "fixed", "(IIIIII)I"⟩ prog_10_method_54_code 7 (Option.some FieldType.int) : Cond) ∈ gt := gt_of (ck_6 (i := 41) rfl) rfl
set_option maxRecDepth 20000 in
theorem wd_1242 : (Jvm.Cond.methodLink "RungHouseModel" 323 ⟨"RungHouseModel", "isRule", "(I)Z"⟩ : Cond) ∈ gt := gt_of (ck_6 (i := 42) rfl) rfl
set_option maxRecDepth 20000 in
theorem wd_1244 : (Jvm.Cond.instanceMethod ⟨"RungHouseModel", "isRule", "(I)Z"⟩ : Cond) ∈ gt := gt_of (ck_6 (i := 44) rfl) rfl
set_option maxRecDepth 20000 in
theorem wd_1245 : (Jvm.Cond.code ⟨"RungHouseModel", "isRule", "(I)Z"⟩ prog_10_method_36_code 2 (Option.some FieldType.boolean) : Cond) ∈ gt := gt_of (ck_6 (i := 45) rfl) rfl
set_option maxRecDepth 20000 in
theorem wd_1246 : (Jvm.Cond.methodLink "RungHouseLaw" 83 ⟨"RungHouseModel", "scrape", "(IIZ)I"⟩ : Cond) ∈ gt := gt_of (ck_6 (i := 46) rfl) rfl
set_option maxRecDepth 20000 in
theorem wd_1247 : (Jvm.Cond.instanceMethod ⟨"RungHouseModel", "scrape", "(IIZ)I"⟩ : Cond) ∈ gt := gt_of (ck_6 (i := 47) rfl) rfl
set_option maxRecDepth 20000 in
theorem wd_1248 : (Jvm.Cond.selects "RungHouseModel" ⟨"RungHouseModel", "scrape", "(IIZ)I"⟩ ⟨"RungHouseModel", "scrape", "(IIZ)I"⟩ : Cond) ∈ gt := gt_of (ck_6 (i := 48) rfl) rfl
set_option maxRecDepth 20000 in
theorem wd_1249 : (Jvm.Cond.code ⟨"RungHouseModel", "scrape", "(IIZ)I"⟩ prog_10_method_55_code 4 (Option.some FieldType.int) : Cond) ∈ gt := gt_of (ck_6 (i := 49) rfl) rfl
set_option maxRecDepth 20000 in
theorem wd_1250 : (Jvm.Cond.constantLong "RungHouseModel" 326 (999 : Int64) : Cond) ∈ gt := gt_of (ck_6 (i := 50) rfl) rfl
set_option maxRecDepth 20000 in
theorem wd_1251 : (Jvm.Cond.methodLink "RungHouseLaw" 87 ⟨"RungHouseModel", "judge", "(IIIII)I"⟩ : Cond) ∈ gt := gt_of (ck_6 (i := 51) rfl) rfl
set_option maxRecDepth 20000 in
theorem wd_1252 : (Jvm.Cond.instanceMethod ⟨"RungHouseModel", "judge", "(IIIII)I"⟩ : Cond) ∈ gt := gt_of (ck_6 (i := 52) rfl) rfl
set_option maxRecDepth 20000 in
theorem wd_1253 : (Jvm.Cond.selects "RungHouseModel" ⟨"RungHouseModel", "judge", "(IIIII)I"⟩ ⟨"RungHouseModel", "judge", "(IIIII)I"⟩ : Cond) ∈ gt := gt_of (ck_6 (i := 53) rfl) rfl
set_option maxRecDepth 20000 in
theorem wd_1254 : (Jvm.Cond.code ⟨"RungHouseModel", "judge", "(IIIII)I"⟩ prog_10_method_56_code 8 (Option.some FieldType.int) : Cond) ∈ gt := gt_of (ck_6 (i := 54) rfl) rfl
set_option maxRecDepth 20000 in
theorem wd_1255 : (Jvm.Cond.methodLink "RungHouseLaw" 91 ⟨"RungHouseModel", "standing", "(IIIIII)I"⟩ : Cond) ∈ gt := gt_of (ck_6 (i := 55) rfl) rfl
set_option maxRecDepth 20000 in
theorem wd_1256 : (Jvm.Cond.instanceMethod ⟨"RungHouseModel", "standing", "(IIIIII)I"⟩ : Cond) ∈ gt := gt_of (ck_6 (i := 56) rfl) rfl
set_option maxRecDepth 20000 in
theorem wd_1257 : (Jvm.Cond.selects "RungHouseModel" ⟨"RungHouseModel", "standing", "(IIIIII)I"⟩ ⟨"RungHouseModel", "standing", "(IIIIII)I"⟩ : Cond) ∈ gt := gt_of (ck_6 (i := 57) rfl) rfl
set_option maxRecDepth 20000 in
theorem wd_1258 : (Jvm.Cond.code ⟨"RungHouseModel", "standing", "(IIIIII)I"⟩ prog_10_method_60_code 7 (Option.some FieldType.int) : Cond) ∈ gt := gt_of (ck_6 (i := 58) rfl) rfl
set_option maxRecDepth 20000 in
theorem wd_1259 : (Jvm.Cond.methodLink "RungHouseModel" 341 ⟨"RungHouseModel", "isBy", "(I)Z"⟩ : Cond) ∈ gt := gt_of (ck_6 (i := 59) rfl) rfl
set_option maxRecDepth 20000 in
theorem wd_1261 : (Jvm.Cond.instanceMethod ⟨"RungHouseModel", "isBy", "(I)Z"⟩ : Cond) ∈ gt := gt_of (ck_6 (i := 61) rfl) rfl
set_option maxRecDepth 20000 in
theorem wd_1262 : (Jvm.Cond.code ⟨"RungHouseModel", "isBy", "(I)Z"⟩ prog_10_method_59_code 2 (Option.some FieldType.boolean) : Cond) ∈ gt := gt_of (ck_6 (i := 62) rfl) rfl
set_option maxRecDepth 20000 in
theorem wd_1263 : (Jvm.Cond.methodLink "RungHouseModel" 344 ⟨"RungHouseModel", "stand", "(I)V"⟩ : Cond) ∈ gt := gt_of (ck_6 (i := 63) rfl) rfl
set_option maxRecDepth 20000 in
theorem wd_1265 : (Jvm.Cond.instanceMethod ⟨"RungHouseModel", "stand", "(I)V"⟩ : Cond) ∈ gt := gt_of (ck_6 (i := 65) rfl) rfl
set_option maxRecDepth 20000 in
theorem wd_1266 : (Jvm.Cond.code ⟨"RungHouseModel", "stand", "(I)V"⟩ prog_10_method_58_code 8 none : Cond) ∈ gt := gt_of (ck_6 (i := 66) rfl) rfl
set_option maxRecDepth 20000 in
theorem wd_1267 : (Jvm.Cond.constant "RungHouseModel" 334 (1000000 : Int32) : Cond) ∈ gt := gt_of (ck_6 (i := 67) rfl) rfl
set_option maxRecDepth 20000 in
theorem wd_1268 : (Jvm.Cond.methodLink "RungHouseModel" 337 ⟨"RungHouseModel", "liveYear", "(I)V"⟩ : Cond) ∈ gt := gt_of (ck_6 (i := 68) rfl) rfl
set_option maxRecDepth 20000 in
theorem wd_1270 : (Jvm.Cond.instanceMethod ⟨"RungHouseModel", "liveYear", "(I)V"⟩ : Cond) ∈ gt := gt_of (ck_6 (i := 70) rfl) rfl
set_option maxRecDepth 20000 in
theorem wd_1271 : (Jvm.Cond.code ⟨"RungHouseModel", "liveYear", "(I)V"⟩ prog_10_method_57_code 12 none : Cond) ∈ gt := gt_of (ck_6 (i := 71) rfl) rfl
set_option maxRecDepth 20000 in
theorem wd_1272 : (Jvm.Cond.constantLong "RungHouseModel" 335 (1000000 : Int64) : Cond) ∈ gt := gt_of (ck_6 (i := 72) rfl) rfl
set_option maxRecDepth 20000 in
theorem wd_1273 : (Jvm.Cond.methodLink "RungHouseLaw" 95 ⟨"RungHouseModel", "odds", "(IIIIII)I"⟩ : Cond) ∈ gt := gt_of (ck_6 (i := 73) rfl) rfl
set_option maxRecDepth 20000 in
theorem wd_1274 : (Jvm.Cond.instanceMethod ⟨"RungHouseModel", "odds", "(IIIIII)I"⟩ : Cond) ∈ gt := gt_of (ck_6 (i := 74) rfl) rfl
set_option maxRecDepth 20000 in
theorem wd_1275 : (Jvm.Cond.selects "RungHouseModel" ⟨"RungHouseModel", "odds", "(IIIIII)I"⟩ ⟨"RungHouseModel", "odds", "(IIIIII)I"⟩ : Cond) ∈ gt := gt_of (ck_6 (i := 75) rfl) rfl
set_option maxRecDepth 20000 in
theorem wd_1276 : (Jvm.Cond.code ⟨"RungHouseModel", "odds", "(IIIIII)I"⟩ prog_10_method_61_code 7 (Option.some FieldType.int) : Cond) ∈ gt := gt_of (ck_6 (i := 76) rfl) rfl
set_option maxRecDepth 20000 in
theorem wd_1277 : (Jvm.Cond.methodLink "RungHouseLaw" 99 ⟨"RungHouseModel", "even", "(IIIIII)I"⟩ : Cond) ∈ gt := gt_of (ck_6 (i := 77) rfl) rfl
set_option maxRecDepth 20000 in
theorem wd_1278 : (Jvm.Cond.instanceMethod ⟨"RungHouseModel", "even", "(IIIIII)I"⟩ : Cond) ∈ gt := gt_of (ck_6 (i := 78) rfl) rfl
set_option maxRecDepth 20000 in
theorem wd_1279 : (Jvm.Cond.selects "RungHouseModel" ⟨"RungHouseModel", "even", "(IIIIII)I"⟩ ⟨"RungHouseModel", "even", "(IIIIII)I"⟩ : Cond) ∈ gt := gt_of (ck_6 (i := 79) rfl) rfl
set_option maxRecDepth 20000 in
theorem wd_1280 : (Jvm.Cond.code ⟨"RungHouseModel", "even", "(IIIIII)I"⟩ prog_10_method_63_code 7 (Option.some FieldType.int) : Cond) ∈ gt := gt_of (ck_6 (i := 80) rfl) rfl
set_option maxRecDepth 20000 in
theorem wd_1281 : (Jvm.Cond.constantLong "RungHouseModel" 347 (2 : Int64) : Cond) ∈ gt := gt_of (ck_6 (i := 81) rfl) rfl
set_option maxRecDepth 20000 in
theorem wd_1282 : (Jvm.Cond.methodLink "RungHouseModel" 349 ⟨"RungHouseModel", "evenAt", "(II)I"⟩ : Cond) ∈ gt := gt_of (ck_6 (i := 82) rfl) rfl
set_option maxRecDepth 20000 in
theorem wd_1284 : (Jvm.Cond.instanceMethod ⟨"RungHouseModel", "evenAt", "(II)I"⟩ : Cond) ∈ gt := gt_of (ck_6 (i := 84) rfl) rfl
set_option maxRecDepth 20000 in
theorem wd_1285 : (Jvm.Cond.code ⟨"RungHouseModel", "evenAt", "(II)I"⟩ prog_10_method_62_code 8 (Option.some FieldType.int) : Cond) ∈ gt := gt_of (ck_6 (i := 85) rfl) rfl
set_option maxRecDepth 20000 in
theorem wd_1286 : (Jvm.Cond.methodLink "RungHouseLaw" 103 ⟨"RungHouseModel", "year", "(II)I"⟩ : Cond) ∈ gt := gt_of (ck_6 (i := 86) rfl) rfl
set_option maxRecDepth 20000 in
theorem wd_1287 : (Jvm.Cond.instanceMethod ⟨"RungHouseModel", "year", "(II)I"⟩ : Cond) ∈ gt := gt_of (ck_6 (i := 87) rfl) rfl
set_option maxRecDepth 20000 in
theorem wd_1288 : (Jvm.Cond.selects "RungHouseModel" ⟨"RungHouseModel", "year", "(II)I"⟩ ⟨"RungHouseModel", "year", "(II)I"⟩ : Cond) ∈ gt := gt_of (ck_6 (i := 88) rfl) rfl
set_option maxRecDepth 20000 in
theorem wd_1289 : (Jvm.Cond.code ⟨"RungHouseModel", "year", "(II)I"⟩ prog_10_method_64_code 3 (Option.some FieldType.int) : Cond) ∈ gt := gt_of (ck_6 (i := 89) rfl) rfl
set_option maxRecDepth 20000 in
theorem wd_1290 : (Jvm.Cond.constantLong "RungHouseModel" 352 (9 : Int64) : Cond) ∈ gt := gt_of (ck_6 (i := 90) rfl) rfl
set_option maxRecDepth 20000 in
theorem wd_1291 : (Jvm.Cond.methodLink "RungHouseLaw" 107 ⟨"RungHouseModel", "clear", "()I"⟩ : Cond) ∈ gt := gt_of (ck_6 (i := 91) rfl) rfl
set_option maxRecDepth 20000 in
theorem wd_1292 : (Jvm.Cond.instanceMethod ⟨"RungHouseModel", "clear", "()I"⟩ : Cond) ∈ gt := gt_of (ck_6 (i := 92) rfl) rfl
set_option maxRecDepth 20000 in
theorem wd_1293 : (Jvm.Cond.selects "RungHouseModel" ⟨"RungHouseModel", "clear", "()I"⟩ ⟨"RungHouseModel", "clear", "()I"⟩ : Cond) ∈ gt := gt_of (ck_6 (i := 93) rfl) rfl
set_option maxRecDepth 20000 in
theorem wd_1294 : (Jvm.Cond.code ⟨"RungHouseModel", "clear", "()I"⟩ prog_10_method_65_code 2 (Option.some FieldType.int) : Cond) ∈ gt := gt_of (ck_6 (i := 94) rfl) rfl
set_option maxRecDepth 20000 in
theorem wd_1295 : (Jvm.Cond.methodLink "RungHouseLaw" 111 ⟨"RungHouseModel", "think", "(III)I"⟩ : Cond) ∈ gt := gt_of (ck_6 (i := 95) rfl) rfl
set_option maxRecDepth 20000 in
theorem wd_1296 : (Jvm.Cond.instanceMethod ⟨"RungHouseModel", "think", "(III)I"⟩ : Cond) ∈ gt := gt_of (ck_6 (i := 96) rfl) rfl
set_option maxRecDepth 20000 in
theorem wd_1297 : (Jvm.Cond.selects "RungHouseModel" ⟨"RungHouseModel", "think", "(III)I"⟩ ⟨"RungHouseModel", "think", "(III)I"⟩ : Cond) ∈ gt := gt_of (ck_6 (i := 97) rfl) rfl
set_option maxRecDepth 20000 in
theorem wd_1298 : (Jvm.Cond.code ⟨"RungHouseModel", "think", "(III)I"⟩ prog_10_method_67_code 7 (Option.some FieldType.int) : Cond) ∈ gt := gt_of (ck_6 (i := 98) rfl) rfl
set_option maxRecDepth 20000 in
theorem wd_1299 : (Jvm.Cond.methodLink "RungHouseModel" 359 ⟨"RungHouseModel", "weigh", "(II)V"⟩ : Cond) ∈ gt := gt_of (ck_6 (i := 99) rfl) rfl
set_option maxRecDepth 20000 in
theorem wd_1301 : (Jvm.Cond.instanceMethod ⟨"RungHouseModel", "weigh", "(II)V"⟩ : Cond) ∈ gt := gt_of (ck_6 (i := 101) rfl) rfl
set_option maxRecDepth 20000 in
theorem wd_1302 : (Jvm.Cond.code ⟨"RungHouseModel", "weigh", "(II)V"⟩ prog_10_method_66_code 7 none : Cond) ∈ gt := gt_of (ck_6 (i := 102) rfl) rfl
set_option maxRecDepth 20000 in
theorem wd_1303 : (Jvm.Cond.constantLong "RungHouseModel" 357 (100000 : Int64) : Cond) ∈ gt := gt_of (ck_6 (i := 103) rfl) rfl
set_option maxRecDepth 20000 in
theorem wd_1304 : (Jvm.Cond.constantLong "RungHouseModel" 362 (100 : Int64) : Cond) ∈ gt := gt_of (ck_6 (i := 104) rfl) rfl
set_option maxRecDepth 20000 in
theorem wd_1305 : (Jvm.Cond.methodLink "RungHouseLaw" 115 ⟨"RungHouseModel", "buy", "(IIIIII)I"⟩ : Cond) ∈ gt := gt_of (ck_6 (i := 105) rfl) rfl
set_option maxRecDepth 20000 in
theorem wd_1306 : (Jvm.Cond.instanceMethod ⟨"RungHouseModel", "buy", "(IIIIII)I"⟩ : Cond) ∈ gt := gt_of (ck_6 (i := 106) rfl) rfl
set_option maxRecDepth 20000 in
theorem wd_1307 : (Jvm.Cond.selects "RungHouseModel" ⟨"RungHouseModel", "buy", "(IIIIII)I"⟩ ⟨"RungHouseModel", "buy", "(IIIIII)I"⟩ : Cond) ∈ gt := gt_of (ck_6 (i := 107) rfl) rfl
set_option maxRecDepth 20000 in
theorem wd_1308 : (Jvm.Cond.code ⟨"RungHouseModel", "buy", "(IIIIII)I"⟩ prog_10_method_68_code 7 (Option.some FieldType.int) : Cond) ∈ gt := gt_of (ck_6 (i := 108) rfl) rfl
set_option maxRecDepth 20000 in
theorem wd_1309 : (Jvm.Cond.methodLink "RungHouseLaw" 120 ⟨"RungHouseModel", "keepRung", "(IIII)I"⟩ : Cond) ∈ gt := gt_of (ck_6 (i := 109) rfl) rfl
set_option maxRecDepth 20000 in
theorem wd_1310 : (Jvm.Cond.instanceMethod ⟨"RungHouseModel", "keepRung", "(IIII)I"⟩ : Cond) ∈ gt := gt_of (ck_6 (i := 110) rfl) rfl
set_option maxRecDepth 20000 in
theorem wd_1311 : (Jvm.Cond.selects "RungHouseModel" ⟨"RungHouseModel", "keepRung", "(IIII)I"⟩ ⟨"RungHouseModel", "keepRung", "(IIII)I"⟩ : Cond) ∈ gt := gt_of (ck_6 (i := 111) rfl) rfl
set_option maxRecDepth 20000 in
theorem wd_1312 : (Jvm.Cond.code ⟨"RungHouseModel", "keepRung", "(IIII)I"⟩ prog_10_method_69_code 6 (Option.some FieldType.int) : Cond) ∈ gt := gt_of (ck_6 (i := 112) rfl) rfl
set_option maxRecDepth 20000 in
theorem wd_1313 : (Jvm.Cond.methodLink "RungHouseLaw" 124 ⟨"RungHouseModel", "leave", "(IIII)I"⟩ : Cond) ∈ gt := gt_of (ck_6 (i := 113) rfl) rfl
set_option maxRecDepth 20000 in
theorem wd_1314 : (Jvm.Cond.instanceMethod ⟨"RungHouseModel", "leave", "(IIII)I"⟩ : Cond) ∈ gt := gt_of (ck_6 (i := 114) rfl) rfl
set_option maxRecDepth 20000 in
theorem wd_1315 : (Jvm.Cond.selects "RungHouseModel" ⟨"RungHouseModel", "leave", "(IIII)I"⟩ ⟨"RungHouseModel", "leave", "(IIII)I"⟩ : Cond) ∈ gt := gt_of (ck_6 (i := 115) rfl) rfl
set_option maxRecDepth 20000 in
theorem wd_1316 : (Jvm.Cond.code ⟨"RungHouseModel", "leave", "(IIII)I"⟩ prog_10_method_70_code 6 (Option.some FieldType.int) : Cond) ∈ gt := gt_of (ck_6 (i := 116) rfl) rfl
set_option maxRecDepth 20000 in
theorem wd_1317 : (Jvm.Cond.methodLink "RungHouseLaw" 129 ⟨"RungHouseModel", "pad", "(IIIIIIIII)I"⟩ : Cond) ∈ gt := gt_of (ck_6 (i := 117) rfl) rfl
set_option maxRecDepth 20000 in
theorem wd_1318 : (Jvm.Cond.instanceMethod ⟨"RungHouseModel", "pad", "(IIIIIIIII)I"⟩ : Cond) ∈ gt := gt_of (ck_6 (i := 118) rfl) rfl
set_option maxRecDepth 20000 in
theorem wd_1319 : (Jvm.Cond.selects "RungHouseModel" ⟨"RungHouseModel", "pad", "(IIIIIIIII)I"⟩ ⟨"RungHouseModel", "pad", "(IIIIIIIII)I"⟩ : Cond) ∈ gt := gt_of (ck_6 (i := 119) rfl) rfl
set_option maxRecDepth 20000 in
theorem wd_1320 : (Jvm.Cond.code ⟨"RungHouseModel", "pad", "(IIIIIIIII)I"⟩ prog_10_method_71_code 14 (Option.some FieldType.int) : Cond) ∈ gt := gt_of (ck_6 (i := 120) rfl) rfl
set_option maxRecDepth 20000 in
theorem wd_1321 : (Jvm.Cond.methodLink "RungHouseLaw" 133 ⟨"RungHouseModel", "setting", "(III)I"⟩ : Cond) ∈ gt := gt_of (ck_6 (i := 121) rfl) rfl
set_option maxRecDepth 20000 in
theorem wd_1322 : (Jvm.Cond.instanceMethod ⟨"RungHouseModel", "setting", "(III)I"⟩ : Cond) ∈ gt := gt_of (ck_6 (i := 122) rfl) rfl
set_option maxRecDepth 20000 in
theorem wd_1323 : (Jvm.Cond.selects "RungHouseModel" ⟨"RungHouseModel", "setting", "(III)I"⟩ ⟨"RungHouseModel", "setting", "(III)I"⟩ : Cond) ∈ gt := gt_of (ck_6 (i := 123) rfl) rfl
set_option maxRecDepth 20000 in
theorem wd_1324 : (Jvm.Cond.code ⟨"RungHouseModel", "setting", "(III)I"⟩ prog_10_method_74_code 10 (Option.some FieldType.int) : Cond) ∈ gt := gt_of (ck_6 (i := 124) rfl) rfl
set_option maxRecDepth 20000 in
theorem wd_1325 : (Jvm.Cond.constantLong "RungHouseModel" 364 (-9999999 : Int64) : Cond) ∈ gt := gt_of (ck_6 (i := 125) rfl) rfl
set_option maxRecDepth 20000 in
theorem wd_1326 : (Jvm.Cond.constantLong "RungHouseModel" 366 (9999999 : Int64) : Cond) ∈ gt := gt_of (ck_6 (i := 126) rfl) rfl
set_option maxRecDepth 20000 in
theorem wd_1327 : (Jvm.Cond.methodLink "RungHouseModel" 368 ⟨"RungHouseModel", "isEven", "(III)Z"⟩ : Cond) ∈ gt := gt_of (ck_6 (i := 127) rfl) rfl
set_option maxRecDepth 20000 in
theorem wd_1329 : (Jvm.Cond.instanceMethod ⟨"RungHouseModel", "isEven", "(III)Z"⟩ : Cond) ∈ gt := gt_of (ck_6 (i := 129) rfl) rfl
set_option maxRecDepth 20000 in
theorem wd_1330 : (Jvm.Cond.code ⟨"RungHouseModel", "isEven", "(III)Z"⟩ prog_10_method_72_code 4 (Option.some FieldType.boolean) : Cond) ∈ gt := gt_of (ck_6 (i := 130) rfl) rfl
set_option maxRecDepth 20000 in
theorem wd_1331 : (Jvm.Cond.methodLink "RungHouseModel" 372 ⟨"RungHouseModel", "pained", "(I)I"⟩ : Cond) ∈ gt := gt_of (ck_6 (i := 131) rfl) rfl
set_option maxRecDepth 20000 in
theorem wd_1333 : (Jvm.Cond.instanceMethod ⟨"RungHouseModel", "pained", "(I)I"⟩ : Cond) ∈ gt := gt_of (ck_6 (i := 133) rfl) rfl
set_option maxRecDepth 20000 in
theorem wd_1334 : (Jvm.Cond.code ⟨"RungHouseModel", "pained", "(I)I"⟩ prog_10_method_73_code 4 (Option.some FieldType.int) : Cond) ∈ gt := gt_of (ck_6 (i := 134) rfl) rfl
set_option maxRecDepth 20000 in
theorem wd_1335 : (Jvm.Cond.methodLink "RungHouseLaw" 137 ⟨"RungHouseModel", "seed", "(I)I"⟩ : Cond) ∈ gt := gt_of (ck_6 (i := 135) rfl) rfl
set_option maxRecDepth 20000 in
theorem wd_1336 : (Jvm.Cond.instanceMethod ⟨"RungHouseModel", "seed", "(I)I"⟩ : Cond) ∈ gt := gt_of (ck_6 (i := 136) rfl) rfl
set_option maxRecDepth 20000 in
theorem wd_1337 : (Jvm.Cond.selects "RungHouseModel" ⟨"RungHouseModel", "seed", "(I)I"⟩ ⟨"RungHouseModel", "seed", "(I)I"⟩ : Cond) ∈ gt := gt_of (ck_6 (i := 137) rfl) rfl
set_option maxRecDepth 20000 in
theorem wd_1338 : (Jvm.Cond.code ⟨"RungHouseModel", "seed", "(I)I"⟩ prog_10_method_75_code 3 (Option.some FieldType.int) : Cond) ∈ gt := gt_of (ck_6 (i := 138) rfl) rfl
set_option maxRecDepth 20000 in
theorem wd_1339 : (Jvm.Cond.methodLink "RungHouseLaw" 141 ⟨"RungHouseModel", "lives", "(IIII)I"⟩ : Cond) ∈ gt := gt_of (ck_6 (i := 139) rfl) rfl
set_option maxRecDepth 20000 in
theorem wd_1340 : (Jvm.Cond.instanceMethod ⟨"RungHouseModel", "lives", "(IIII)I"⟩ : Cond) ∈ gt := gt_of (ck_6 (i := 140) rfl) rfl
set_option maxRecDepth 20000 in
theorem wd_1341 : (Jvm.Cond.selects "RungHouseModel" ⟨"RungHouseModel", "lives", "(IIII)I"⟩ ⟨"RungHouseModel", "lives", "(IIII)I"⟩ : Cond) ∈ gt := gt_of (ck_6 (i := 141) rfl) rfl
set_option maxRecDepth 20000 in
theorem wd_1342 : (Jvm.Cond.code ⟨"RungHouseModel", "lives", "(IIII)I"⟩ prog_10_method_78_code 13 (Option.some FieldType.int) : Cond) ∈ gt := gt_of (ck_6 (i := 142) rfl) rfl
set_option maxRecDepth 20000 in
theorem wd_1343 : (Jvm.Cond.methodLink "RungHouseModel" 388 ⟨"RungHouseModel", "drawScrape", "(I)I"⟩ : Cond) ∈ gt := gt_of (ck_6 (i := 143) rfl) rfl
set_option maxRecDepth 20000 in
theorem wd_1345 : (Jvm.Cond.instanceMethod ⟨"RungHouseModel", "drawScrape", "(I)I"⟩ : Cond) ∈ gt := gt_of (ck_6 (i := 145) rfl) rfl
set_option maxRecDepth 20000 in
theorem wd_1346 : (Jvm.Cond.code ⟨"RungHouseModel", "drawScrape", "(I)I"⟩ prog_10_method_77_code 5 (Option.some FieldType.int) : Cond) ∈ gt := gt_of (ck_6 (i := 146) rfl) rfl
set_option maxRecDepth 20000 in
theorem wd_1347 : (Jvm.Cond.methodLink "RungHouseModel" 385 ⟨"RungHouseModel", "draw", "(I)I"⟩ : Cond) ∈ gt := gt_of (ck_6 (i := 147) rfl) rfl
set_option maxRecDepth 20000 in
theorem wd_1349 : (Jvm.Cond.instanceMethod ⟨"RungHouseModel", "draw", "(I)I"⟩ : Cond) ∈ gt := gt_of (ck_6 (i := 149) rfl) rfl
set_option maxRecDepth 20000 in
theorem wd_1350 : (Jvm.Cond.code ⟨"RungHouseModel", "draw", "(I)I"⟩ prog_10_method_76_code 2 (Option.some FieldType.int) : Cond) ∈ gt := gt_of (ck_6 (i := 150) rfl) rfl
set_option maxRecDepth 20000 in
theorem wd_1351 : (Jvm.Cond.constantLong "RungHouseModel" 378 (1103515245 : Int64) : Cond) ∈ gt := gt_of (ck_6 (i := 151) rfl) rfl
set_option maxRecDepth 20000 in
theorem wd_1352 : (Jvm.Cond.constantLong "RungHouseModel" 380 (12345 : Int64) : Cond) ∈ gt := gt_of (ck_6 (i := 152) rfl) rfl
set_option maxRecDepth 20000 in
theorem wd_1353 : (Jvm.Cond.constantLong "RungHouseModel" 382 (2147483648 : Int64) : Cond) ∈ gt := gt_of (ck_6 (i := 153) rfl) rfl
set_option maxRecDepth 20000 in
theorem wd_1354 : (Jvm.Cond.constant "RungHouseModel" 384 (65536 : Int32) : Cond) ∈ gt := gt_of (ck_6 (i := 154) rfl) rfl
set_option maxRecDepth 20000 in
theorem wd_1355 : (Jvm.Cond.methodLink "RungHouseLaw" 145 ⟨"RungHouseModel", "count", "(I)I"⟩ : Cond) ∈ gt := gt_of (ck_6 (i := 155) rfl) rfl
set_option maxRecDepth 20000 in
theorem wd_1356 : (Jvm.Cond.instanceMethod ⟨"RungHouseModel", "count", "(I)I"⟩ : Cond) ∈ gt := gt_of (ck_6 (i := 156) rfl) rfl
set_option maxRecDepth 20000 in
theorem wd_1357 : (Jvm.Cond.selects "RungHouseModel" ⟨"RungHouseModel", "count", "(I)I"⟩ ⟨"RungHouseModel", "count", "(I)I"⟩ : Cond) ∈ gt := gt_of (ck_6 (i := 157) rfl) rfl
set_option maxRecDepth 20000 in
theorem wd_1358 : (Jvm.Cond.code ⟨"RungHouseModel", "count", "(I)I"⟩ prog_10_method_79_code 2 (Option.some FieldType.int) : Cond) ∈ gt := gt_of (ck_6 (i := 158) rfl) rfl
set_option maxRecDepth 20000 in
theorem wd_1359 : (Jvm.Cond.methodLink "RungHouseLaw" 149 ⟨"RungHouseModel", "keep", "(I)I"⟩ : Cond) ∈ gt := gt_of (ck_6 (i := 159) rfl) rfl
set_option maxRecDepth 20000 in
theorem wd_1360 : (Jvm.Cond.instanceMethod ⟨"RungHouseModel", "keep", "(I)I"⟩ : Cond) ∈ gt := gt_of (ck_6 (i := 160) rfl) rfl
set_option maxRecDepth 20000 in
theorem wd_1361 : (Jvm.Cond.selects "RungHouseModel" ⟨"RungHouseModel", "keep", "(I)I"⟩ ⟨"RungHouseModel", "keep", "(I)I"⟩ : Cond) ∈ gt := gt_of (ck_6 (i := 161) rfl) rfl
set_option maxRecDepth 20000 in
theorem wd_1362 : (Jvm.Cond.code ⟨"RungHouseModel", "keep", "(I)I"⟩ prog_10_method_80_code 4 (Option.some FieldType.int) : Cond) ∈ gt := gt_of (ck_6 (i := 162) rfl) rfl
set_option maxRecDepth 20000 in
theorem wd_1363 : (Jvm.Cond.methodLink "RungHouseLaw" 153 ⟨"RungHouseModel", "goBack", "(I)I"⟩ : Cond) ∈ gt := gt_of (ck_6 (i := 163) rfl) rfl
set_option maxRecDepth 20000 in
theorem wd_1364 : (Jvm.Cond.instanceMethod ⟨"RungHouseModel", "goBack", "(I)I"⟩ : Cond) ∈ gt := gt_of (ck_6 (i := 164) rfl) rfl
set_option maxRecDepth 20000 in
theorem wd_1365 : (Jvm.Cond.selects "RungHouseModel" ⟨"RungHouseModel", "goBack", "(I)I"⟩ ⟨"RungHouseModel", "goBack", "(I)I"⟩ : Cond) ∈ gt := gt_of (ck_6 (i := 165) rfl) rfl
set_option maxRecDepth 20000 in
theorem wd_1366 : (Jvm.Cond.code ⟨"RungHouseModel", "goBack", "(I)I"⟩ prog_10_method_81_code 4 (Option.some FieldType.int) : Cond) ∈ gt := gt_of (ck_6 (i := 166) rfl) rfl
set_option maxRecDepth 20000 in
theorem wd_1367 : (Jvm.Cond.constantLong "RungHouseLaw" 13 (4294967295 : Int64) : Cond) ∈ gt := gt_of (ck_6 (i := 167) rfl) rfl
set_option maxRecDepth 20000 in
theorem wd_1368 : (Jvm.Cond.fieldLink "java/lang/String" 9 "java/lang/String" "value" "[B" : Cond) ∈ gt := gt_of (ck_6 (i := 168) rfl) rfl
set_option maxRecDepth 20000 in
theorem wd_1369 : (Jvm.Cond.fieldLink "java/lang/String" 15 "java/lang/String" "coder" "B" : Cond) ∈ gt := gt_of (ck_6 (i := 169) rfl) rfl
theorem ws_0 : (Cond.selects "RungHouse$Reader" ⟨"RungHouse$Reader", "passLetters", "()V"⟩ ⟨"RungHouse$Reader", "passLetters", "()V"⟩ : Cond) ∈ gt := gt_of (List.mem_append_left _ (List.mem_of_getElem? (i := 0) rfl)) rfl
theorem ws_1 : (Cond.selects "RungHouse$Reader" ⟨"RungHouse$Reader", "passFigures", "()V"⟩ ⟨"RungHouse$Reader", "passFigures", "()V"⟩ : Cond) ∈ gt := gt_of (List.mem_append_left _ (List.mem_of_getElem? (i := 1) rfl)) rfl
theorem ws_2 : (Cond.selects "RungHouse$House" ⟨"RungHouse$House", "readRung", "(LRungHouse$Reader;)V"⟩ ⟨"RungHouse$House", "readRung", "(LRungHouse$Reader;)V"⟩ : Cond) ∈ gt := gt_of (List.mem_append_left _ (List.mem_of_getElem? (i := 2) rfl)) rfl
theorem ws_3 : (Cond.selects "RungHouse$House" ⟨"RungHouse$House", "readStep", "(LRungHouse$Reader;I)I"⟩ ⟨"RungHouse$House", "readStep", "(LRungHouse$Reader;I)I"⟩ : Cond) ∈ gt := gt_of (List.mem_append_left _ (List.mem_of_getElem? (i := 3) rfl)) rfl
theorem ws_4 : (Cond.selects "RungHouse$House" ⟨"RungHouse$House", "setStep", "(II)V"⟩ ⟨"RungHouse$House", "setStep", "(II)V"⟩ : Cond) ∈ gt := gt_of (List.mem_append_left _ (List.mem_of_getElem? (i := 4) rfl)) rfl
theorem ws_5 : (Cond.selects "RungHouse" ⟨"RungHouse", "closeText", "(I)I"⟩ ⟨"RungHouse", "closeText", "(I)I"⟩ : Cond) ∈ gt := gt_of (List.mem_append_left _ (List.mem_of_getElem? (i := 5) rfl)) rfl
theorem ws_6 : (Cond.selects "RungHouse$Sort" ⟨"RungHouse$Sort", "readScrape", "(LRungHouse$Reader;)V"⟩ ⟨"RungHouse$Sort", "readScrape", "(LRungHouse$Reader;)V"⟩ : Cond) ∈ gt := gt_of (List.mem_append_left _ (List.mem_of_getElem? (i := 6) rfl)) rfl
theorem ws_7 : (Cond.selects "RungHouse$Sort" ⟨"RungHouse$Sort", "readPains", "(LRungHouse$Reader;)V"⟩ ⟨"RungHouse$Sort", "readPains", "(LRungHouse$Reader;)V"⟩ : Cond) ∈ gt := gt_of (List.mem_append_left _ (List.mem_of_getElem? (i := 7) rfl)) rfl
theorem ws_8 : (Cond.selects "RungHouse$Sort" ⟨"RungHouse$Sort", "spare", "()V"⟩ ⟨"RungHouse$Sort", "spare", "()V"⟩ : Cond) ∈ gt := gt_of (List.mem_append_left _ (List.mem_of_getElem? (i := 8) rfl)) rfl
theorem ws_9 : (Cond.selects "RungHouse$Rule" ⟨"RungHouse$Rule", "readBar", "(LRungHouse$Reader;)V"⟩ ⟨"RungHouse$Rule", "readBar", "(LRungHouse$Reader;)V"⟩ : Cond) ∈ gt := gt_of (List.mem_append_left _ (List.mem_of_getElem? (i := 9) rfl)) rfl
theorem ws_10 : (Cond.selects "RungHouse" ⟨"RungHouse", "isHouse", "(I)Z"⟩ ⟨"RungHouse", "isHouse", "(I)Z"⟩ : Cond) ∈ gt := gt_of (List.mem_append_left _ (List.mem_of_getElem? (i := 10) rfl)) rfl
theorem ws_11 : (Cond.selects "RungHouse" ⟨"RungHouse", "isRung", "(II)Z"⟩ ⟨"RungHouse", "isRung", "(II)Z"⟩ : Cond) ∈ gt := gt_of (List.mem_append_left _ (List.mem_of_getElem? (i := 11) rfl)) rfl
theorem ws_12 : (Cond.selects "RungHouse" ⟨"RungHouse", "isSort", "(I)Z"⟩ ⟨"RungHouse", "isSort", "(I)Z"⟩ : Cond) ∈ gt := gt_of (List.mem_append_left _ (List.mem_of_getElem? (i := 12) rfl)) rfl
theorem ws_13 : (Cond.selects "RungHouse" ⟨"RungHouse", "planOf", "(III)LRungHouse$Plan;"⟩ ⟨"RungHouse", "planOf", "(III)LRungHouse$Plan;"⟩ : Cond) ∈ gt := gt_of (List.mem_append_left _ (List.mem_of_getElem? (i := 13) rfl)) rfl
theorem ws_14 : (Cond.selects "RungHouse$Plan" ⟨"RungHouse$Plan", "reckonCost", "(II)V"⟩ ⟨"RungHouse$Plan", "reckonCost", "(II)V"⟩ : Cond) ∈ gt := gt_of (List.mem_append_left _ (List.mem_of_getElem? (i := 14) rfl)) rfl
theorem ws_15 : (Cond.selects "RungHouse$Plan" ⟨"RungHouse$Plan", "sumScrapes", "(Z)V"⟩ ⟨"RungHouse$Plan", "sumScrapes", "(Z)V"⟩ : Cond) ∈ gt := gt_of (List.mem_append_left _ (List.mem_of_getElem? (i := 15) rfl)) rfl
theorem ws_16 : (Cond.selects "RungHouse$Plan" ⟨"RungHouse$Plan", "reckonMonth", "(II)V"⟩ ⟨"RungHouse$Plan", "reckonMonth", "(II)V"⟩ : Cond) ∈ gt := gt_of (List.mem_append_left _ (List.mem_of_getElem? (i := 16) rfl)) rfl
theorem ws_17 : (Cond.selects "RungHouse$Plan" ⟨"RungHouse$Plan", "costsLater", "(II)I"⟩ ⟨"RungHouse$Plan", "costsLater", "(II)I"⟩ : Cond) ∈ gt := gt_of (List.mem_append_left _ (List.mem_of_getElem? (i := 17) rfl)) rfl
theorem ws_18 : (Cond.selects "RungHouse" ⟨"RungHouse", "isRule", "(I)Z"⟩ ⟨"RungHouse", "isRule", "(I)Z"⟩ : Cond) ∈ gt := gt_of (List.mem_append_left _ (List.mem_of_getElem? (i := 18) rfl)) rfl
theorem ws_19 : (Cond.selects "RungHouse" ⟨"RungHouse", "isWay", "(I)Z"⟩ ⟨"RungHouse", "isWay", "(I)Z"⟩ : Cond) ∈ gt := gt_of (List.mem_append_left _ (List.mem_of_getElem? (i := 19) rfl)) rfl
theorem ws_20 : (Cond.selects "RungHouse" ⟨"RungHouse", "wayOf", "(IIII)LRungHouse$Plan;"⟩ ⟨"RungHouse", "wayOf", "(IIII)LRungHouse$Plan;"⟩ : Cond) ∈ gt := gt_of (List.mem_append_left _ (List.mem_of_getElem? (i := 20) rfl)) rfl
theorem ws_21 : (Cond.selects "RungHouse$LongRun" ⟨"RungHouse$LongRun", "passMonth", "(LRungHouse$Plan;I)I"⟩ ⟨"RungHouse$LongRun", "passMonth", "(LRungHouse$Plan;I)I"⟩ : Cond) ∈ gt := gt_of (List.mem_append_left _ (List.mem_of_getElem? (i := 21) rfl)) rfl
theorem ws_22 : (Cond.selects "RungHouse$LongRun" ⟨"RungHouse$LongRun", "passYear", "(LRungHouse$House;)V"⟩ ⟨"RungHouse$LongRun", "passYear", "(LRungHouse$House;)V"⟩ : Cond) ∈ gt := gt_of (List.mem_append_left _ (List.mem_of_getElem? (i := 22) rfl)) rfl
theorem ws_23 : (Cond.selects "RungHouse" ⟨"RungHouse", "weighSorts", "(II)V"⟩ ⟨"RungHouse", "weighSorts", "(II)V"⟩ : Cond) ∈ gt := gt_of (List.mem_append_left _ (List.mem_of_getElem? (i := 23) rfl)) rfl
theorem ws_24 : (Cond.selects "RungHouse" ⟨"RungHouse", "painedTrial", "(II)I"⟩ ⟨"RungHouse", "painedTrial", "(II)I"⟩ : Cond) ∈ gt := gt_of (List.mem_append_left _ (List.mem_of_getElem? (i := 24) rfl)) rfl
theorem ws_25 : (Cond.selects "RungHouseModel" ⟨"RungHouseModel", "here", "()I"⟩ ⟨"RungHouseModel", "here", "()I"⟩ : Cond) ∈ gt := gt_of (List.mem_append_left _ (List.mem_of_getElem? (i := 25) rfl)) rfl
theorem ws_26 : (Cond.selects "RungHouseModel" ⟨"RungHouseModel", "takeHouse", "()I"⟩ ⟨"RungHouseModel", "takeHouse", "()I"⟩ : Cond) ∈ gt := gt_of (List.mem_append_left _ (List.mem_of_getElem? (i := 26) rfl)) rfl
theorem ws_27 : (Cond.selects "RungHouseModel" ⟨"RungHouseModel", "readWord", "()V"⟩ ⟨"RungHouseModel", "readWord", "()V"⟩ : Cond) ∈ gt := gt_of (List.mem_append_left _ (List.mem_of_getElem? (i := 27) rfl)) rfl
theorem ws_28 : (Cond.selects "RungHouseModel" ⟨"RungHouseModel", "houseClause", "()I"⟩ ⟨"RungHouseModel", "houseClause", "()I"⟩ : Cond) ∈ gt := gt_of (List.mem_append_left _ (List.mem_of_getElem? (i := 28) rfl)) rfl
theorem ws_29 : (Cond.selects "RungHouseModel" ⟨"RungHouseModel", "fails", "(II)I"⟩ ⟨"RungHouseModel", "fails", "(II)I"⟩ : Cond) ∈ gt := gt_of (List.mem_append_left _ (List.mem_of_getElem? (i := 29) rfl)) rfl
theorem ws_30 : (Cond.selects "RungHouseModel" ⟨"RungHouseModel", "takeNumber", "(II)I"⟩ ⟨"RungHouseModel", "takeNumber", "(II)I"⟩ : Cond) ∈ gt := gt_of (List.mem_append_left _ (List.mem_of_getElem? (i := 30) rfl)) rfl
theorem ws_31 : (Cond.selects "RungHouseModel" ⟨"RungHouseModel", "takeStop", "()I"⟩ ⟨"RungHouseModel", "takeStop", "()I"⟩ : Cond) ∈ gt := gt_of (List.mem_append_left _ (List.mem_of_getElem? (i := 31) rfl)) rfl
theorem ws_32 : (Cond.selects "RungHouseModel" ⟨"RungHouseModel", "copyHouse", "(II)V"⟩ ⟨"RungHouseModel", "copyHouse", "(II)V"⟩ : Cond) ∈ gt := gt_of (List.mem_append_left _ (List.mem_of_getElem? (i := 32) rfl)) rfl
theorem ws_33 : (Cond.selects "RungHouseModel" ⟨"RungHouseModel", "isHouse", "(I)Z"⟩ ⟨"RungHouseModel", "isHouse", "(I)Z"⟩ : Cond) ∈ gt := gt_of (List.mem_append_left _ (List.mem_of_getElem? (i := 33) rfl)) rfl
theorem ws_34 : (Cond.selects "RungHouseModel" ⟨"RungHouseModel", "isRung", "(II)Z"⟩ ⟨"RungHouseModel", "isRung", "(II)Z"⟩ : Cond) ∈ gt := gt_of (List.mem_append_left _ (List.mem_of_getElem? (i := 34) rfl)) rfl
theorem ws_35 : (Cond.selects "RungHouseModel" ⟨"RungHouseModel", "nextOf", "(III)I"⟩ ⟨"RungHouseModel", "nextOf", "(III)I"⟩ : Cond) ∈ gt := gt_of (List.mem_append_left _ (List.mem_of_getElem? (i := 35) rfl)) rfl
theorem ws_36 : (Cond.selects "RungHouseModel" ⟨"RungHouseModel", "takeSort", "()I"⟩ ⟨"RungHouseModel", "takeSort", "()I"⟩ : Cond) ∈ gt := gt_of (List.mem_append_left _ (List.mem_of_getElem? (i := 36) rfl)) rfl
theorem ws_37 : (Cond.selects "RungHouseModel" ⟨"RungHouseModel", "takeScrape", "()I"⟩ ⟨"RungHouseModel", "takeScrape", "()I"⟩ : Cond) ∈ gt := gt_of (List.mem_append_left _ (List.mem_of_getElem? (i := 37) rfl)) rfl
theorem ws_38 : (Cond.selects "RungHouseModel" ⟨"RungHouseModel", "takePains", "()I"⟩ ⟨"RungHouseModel", "takePains", "()I"⟩ : Cond) ∈ gt := gt_of (List.mem_append_left _ (List.mem_of_getElem? (i := 38) rfl)) rfl
theorem ws_39 : (Cond.selects "RungHouseModel" ⟨"RungHouseModel", "isSort", "(I)Z"⟩ ⟨"RungHouseModel", "isSort", "(I)Z"⟩ : Cond) ∈ gt := gt_of (List.mem_append_left _ (List.mem_of_getElem? (i := 39) rfl)) rfl
theorem ws_40 : (Cond.selects "RungHouseModel" ⟨"RungHouseModel", "sumOdds", "(IZ)I"⟩ ⟨"RungHouseModel", "sumOdds", "(IZ)I"⟩ : Cond) ∈ gt := gt_of (List.mem_append_left _ (List.mem_of_getElem? (i := 40) rfl)) rfl
theorem ws_41 : (Cond.selects "RungHouseModel" ⟨"RungHouseModel", "oddsOf", "(IIZ)I"⟩ ⟨"RungHouseModel", "oddsOf", "(IIZ)I"⟩ : Cond) ∈ gt := gt_of (List.mem_append_left _ (List.mem_of_getElem? (i := 41) rfl)) rfl
theorem ws_42 : (Cond.selects "RungHouseModel" ⟨"RungHouseModel", "takeRule", "()I"⟩ ⟨"RungHouseModel", "takeRule", "()I"⟩ : Cond) ∈ gt := gt_of (List.mem_append_left _ (List.mem_of_getElem? (i := 42) rfl)) rfl
theorem ws_43 : (Cond.selects "RungHouseModel" ⟨"RungHouseModel", "takeSpan", "(II)I"⟩ ⟨"RungHouseModel", "takeSpan", "(II)I"⟩ : Cond) ∈ gt := gt_of (List.mem_append_left _ (List.mem_of_getElem? (i := 43) rfl)) rfl
theorem ws_44 : (Cond.selects "RungHouseModel" ⟨"RungHouseModel", "work", "(IIII)V"⟩ ⟨"RungHouseModel", "work", "(IIII)V"⟩ : Cond) ∈ gt := gt_of (List.mem_append_left _ (List.mem_of_getElem? (i := 44) rfl)) rfl
theorem ws_45 : (Cond.selects "RungHouseModel" ⟨"RungHouseModel", "fillYear", "(III)V"⟩ ⟨"RungHouseModel", "fillYear", "(III)V"⟩ : Cond) ∈ gt := gt_of (List.mem_append_left _ (List.mem_of_getElem? (i := 45) rfl)) rfl
theorem ws_46 : (Cond.selects "RungHouseModel" ⟨"RungHouseModel", "asks", "(IIIIII)Z"⟩ ⟨"RungHouseModel", "asks", "(IIIIII)Z"⟩ : Cond) ∈ gt := gt_of (List.mem_append_left _ (List.mem_of_getElem? (i := 46) rfl)) rfl
theorem ws_47 : (Cond.selects "RungHouseModel" ⟨"RungHouseModel", "asksBy", "(IIII)Z"⟩ ⟨"RungHouseModel", "asksBy", "(IIII)Z"⟩ : Cond) ∈ gt := gt_of (List.mem_append_left _ (List.mem_of_getElem? (i := 47) rfl)) rfl
theorem ws_48 : (Cond.selects "RungHouseModel" ⟨"RungHouseModel", "bears", "(I)I"⟩ ⟨"RungHouseModel", "bears", "(I)I"⟩ : Cond) ∈ gt := gt_of (List.mem_append_left _ (List.mem_of_getElem? (i := 48) rfl)) rfl
theorem ws_49 : (Cond.selects "RungHouseModel" ⟨"RungHouseModel", "more", "(I)I"⟩ ⟨"RungHouseModel", "more", "(I)I"⟩ : Cond) ∈ gt := gt_of (List.mem_append_left _ (List.mem_of_getElem? (i := 49) rfl)) rfl
theorem ws_50 : (Cond.selects "RungHouseModel" ⟨"RungHouseModel", "canPain", "()Z"⟩ ⟨"RungHouseModel", "canPain", "()Z"⟩ : Cond) ∈ gt := gt_of (List.mem_append_left _ (List.mem_of_getElem? (i := 50) rfl)) rfl
theorem ws_51 : (Cond.selects "RungHouseModel" ⟨"RungHouseModel", "isPained", "(II)Z"⟩ ⟨"RungHouseModel", "isPained", "(II)Z"⟩ : Cond) ∈ gt := gt_of (List.mem_append_left _ (List.mem_of_getElem? (i := 51) rfl)) rfl
theorem ws_52 : (Cond.selects "RungHouseModel" ⟨"RungHouseModel", "painsAt", "(II)I"⟩ ⟨"RungHouseModel", "painsAt", "(II)I"⟩ : Cond) ∈ gt := gt_of (List.mem_append_left _ (List.mem_of_getElem? (i := 52) rfl)) rfl
theorem ws_53 : (Cond.selects "RungHouseModel" ⟨"RungHouseModel", "plainAt", "(II)I"⟩ ⟨"RungHouseModel", "plainAt", "(II)I"⟩ : Cond) ∈ gt := gt_of (List.mem_append_left _ (List.mem_of_getElem? (i := 53) rfl)) rfl
theorem ws_54 : (Cond.selects "RungHouseModel" ⟨"RungHouseModel", "isWhen", "(II)Z"⟩ ⟨"RungHouseModel", "isWhen", "(II)Z"⟩ : Cond) ∈ gt := gt_of (List.mem_append_left _ (List.mem_of_getElem? (i := 54) rfl)) rfl
theorem ws_55 : (Cond.selects "RungHouseModel" ⟨"RungHouseModel", "painOf", "(Z)I"⟩ ⟨"RungHouseModel", "painOf", "(Z)I"⟩ : Cond) ∈ gt := gt_of (List.mem_append_left _ (List.mem_of_getElem? (i := 55) rfl)) rfl
theorem ws_56 : (Cond.selects "RungHouseModel" ⟨"RungHouseModel", "isRule", "(I)Z"⟩ ⟨"RungHouseModel", "isRule", "(I)Z"⟩ : Cond) ∈ gt := gt_of (List.mem_append_left _ (List.mem_of_getElem? (i := 56) rfl)) rfl
theorem ws_57 : (Cond.selects "RungHouseModel" ⟨"RungHouseModel", "isBy", "(I)Z"⟩ ⟨"RungHouseModel", "isBy", "(I)Z"⟩ : Cond) ∈ gt := gt_of (List.mem_append_left _ (List.mem_of_getElem? (i := 57) rfl)) rfl
theorem ws_58 : (Cond.selects "RungHouseModel" ⟨"RungHouseModel", "stand", "(I)V"⟩ ⟨"RungHouseModel", "stand", "(I)V"⟩ : Cond) ∈ gt := gt_of (List.mem_append_left _ (List.mem_of_getElem? (i := 58) rfl)) rfl
theorem ws_59 : (Cond.selects "RungHouseModel" ⟨"RungHouseModel", "liveYear", "(I)V"⟩ ⟨"RungHouseModel", "liveYear", "(I)V"⟩ : Cond) ∈ gt := gt_of (List.mem_append_left _ (List.mem_of_getElem? (i := 59) rfl)) rfl
theorem ws_60 : (Cond.selects "RungHouseModel" ⟨"RungHouseModel", "evenAt", "(II)I"⟩ ⟨"RungHouseModel", "evenAt", "(II)I"⟩ : Cond) ∈ gt := gt_of (List.mem_append_left _ (List.mem_of_getElem? (i := 60) rfl)) rfl
theorem ws_61 : (Cond.selects "RungHouseModel" ⟨"RungHouseModel", "weigh", "(II)V"⟩ ⟨"RungHouseModel", "weigh", "(II)V"⟩ : Cond) ∈ gt := gt_of (List.mem_append_left _ (List.mem_of_getElem? (i := 61) rfl)) rfl
theorem ws_62 : (Cond.selects "RungHouseModel" ⟨"RungHouseModel", "isEven", "(III)Z"⟩ ⟨"RungHouseModel", "isEven", "(III)Z"⟩ : Cond) ∈ gt := gt_of (List.mem_append_left _ (List.mem_of_getElem? (i := 62) rfl)) rfl
theorem ws_63 : (Cond.selects "RungHouseModel" ⟨"RungHouseModel", "pained", "(I)I"⟩ ⟨"RungHouseModel", "pained", "(I)I"⟩ : Cond) ∈ gt := gt_of (List.mem_append_left _ (List.mem_of_getElem? (i := 63) rfl)) rfl
theorem ws_64 : (Cond.selects "RungHouseModel" ⟨"RungHouseModel", "drawScrape", "(I)I"⟩ ⟨"RungHouseModel", "drawScrape", "(I)I"⟩ : Cond) ∈ gt := gt_of (List.mem_append_left _ (List.mem_of_getElem? (i := 64) rfl)) rfl
theorem ws_65 : (Cond.selects "RungHouseModel" ⟨"RungHouseModel", "draw", "(I)I"⟩ ⟨"RungHouseModel", "draw", "(I)I"⟩ : Cond) ∈ gt := gt_of (List.mem_append_left _ (List.mem_of_getElem? (i := 65) rfl)) rfl
