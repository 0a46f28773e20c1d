/-! Names: the methods and what the tables say of them (by program, wip/whole/gen.py). -/
theorem tk_1 : ∀ w ∈ tables_1_1, w ∈ lw_tbl := fun w h => List.mem_append_right _ (show w ∈ tables_1 from List.mem_append_left _ h)
theorem tk_2 : ∀ w ∈ tables_1_2, w ∈ lw_tbl := fun w h => List.mem_append_right _ (show w ∈ tables_1 from List.mem_append_right _ (List.mem_append_left _ h))
theorem tk_3 : ∀ w ∈ tables_1_3, w ∈ lw_tbl := fun w h => List.mem_append_right _ (show w ∈ tables_1 from List.mem_append_right _ (List.mem_append_right _ (List.mem_append_left _ h)))
theorem tk_4 : ∀ w ∈ tables_1_4, w ∈ lw_tbl := fun w h => List.mem_append_right _ (show w ∈ tables_1 from List.mem_append_right _ (List.mem_append_right _ (List.mem_append_right _ (h))))
theorem wd_0 : Cond.initialized "RedoQuorumLaw" ∈ lw_tbl := tk_1 _ (List.mem_of_getElem? (i := 0) rfl)
theorem wd_1 : Cond.initialized "RedoQuorum" ∈ lw_tbl := tk_1 _ (List.mem_of_getElem? (i := 1) rfl)
theorem wd_2 : Cond.initialized "RedoQuorum$Log" ∈ lw_tbl := tk_1 _ (List.mem_of_getElem? (i := 2) rfl)
theorem wd_3 : Cond.initialized "RedoQuorum$Transactions" ∈ lw_tbl := tk_1 _ (List.mem_of_getElem? (i := 3) rfl)
theorem wd_4 : Cond.initialized "RedoQuorum$Group" ∈ lw_tbl := tk_1 _ (List.mem_of_getElem? (i := 4) rfl)
theorem wd_5 : Cond.initialized "RedoQuorum$StorageCopy" ∈ lw_tbl := tk_1 _ (List.mem_of_getElem? (i := 5) rfl)
theorem wd_6 : Cond.initialized "RedoQuorum$Cache" ∈ lw_tbl := tk_1 _ (List.mem_of_getElem? (i := 6) rfl)
theorem wd_7 : Cond.initialized "RedoQuorumModel" ∈ lw_tbl := tk_1 _ (List.mem_of_getElem? (i := 7) rfl)
theorem wd_8 : Cond.initialized "java/lang/Math" ∈ lw_tbl := tk_1 _ (List.mem_of_getElem? (i := 8) rfl)
theorem wd_9 : Cond.classLink "RedoQuorumLaw" 7 "RedoQuorum" ∈ lw_tbl := tk_1 _ (List.mem_of_getElem? (i := 9) rfl)
theorem wd_10 : Cond.instantiable "RedoQuorum" 7 ∈ lw_tbl := tk_1 _ (List.mem_of_getElem? (i := 10) rfl)
theorem wd_11 : Cond.methodLink "RedoQuorumLaw" 9 ⟨"RedoQuorum", "<init>", "()V"⟩ ∈ lw_tbl := tk_1 _ (List.mem_of_getElem? (i := 11) rfl)
theorem wd_12 : Cond.instanceMethod ⟨"RedoQuorum", "<init>", "()V"⟩ ∈ lw_tbl := tk_1 _ (List.mem_of_getElem? (i := 12) rfl)
theorem wd_13 : Cond.code ⟨"RedoQuorum", "<init>", "()V"⟩ prog_1_method_1_code 2 (none : Option Jvm.ClassFile.FieldType) ∈ lw_tbl := tk_1 _ (List.mem_of_getElem? (i := 13) rfl)
theorem wd_14 : Cond.methodLink "RedoQuorum" 1 ⟨"java/lang/Object", "<init>", "()V"⟩ ∈ lw_tbl := tk_1 _ (List.mem_of_getElem? (i := 14) rfl)
theorem wd_15 : Cond.instanceMethod ⟨"java/lang/Object", "<init>", "()V"⟩ ∈ lw_tbl := tk_1 _ (List.mem_of_getElem? (i := 15) rfl)
theorem wd_16 : Cond.code ⟨"java/lang/Object", "<init>", "()V"⟩ object_method_1_code 1 (none : Option Jvm.ClassFile.FieldType) ∈ lw_tbl := tk_1 _ (List.mem_of_getElem? (i := 16) rfl)
theorem wd_17 : Cond.classLink "RedoQuorum" 7 "RedoQuorum$Log" ∈ lw_tbl := tk_1 _ (List.mem_of_getElem? (i := 17) rfl)
theorem wd_18 : Cond.instantiable "RedoQuorum$Log" 7 ∈ lw_tbl := tk_1 _ (List.mem_of_getElem? (i := 18) rfl)
theorem wd_19 : Cond.methodLinkNest "RedoQuorum" 9 ⟨"RedoQuorum$Log", "<init>", "()V"⟩ "RedoQuorum" ∈ lw_tbl := tk_1 _ (List.mem_of_getElem? (i := 19) rfl)
theorem wd_20 : Cond.instanceMethod ⟨"RedoQuorum$Log", "<init>", "()V"⟩ ∈ lw_tbl := tk_1 _ (List.mem_of_getElem? (i := 20) rfl)
theorem wd_21 : Cond.code ⟨"RedoQuorum$Log", "<init>", "()V"⟩ prog_4_method_1_code 1 (none : Option Jvm.ClassFile.FieldType) ∈ lw_tbl := tk_1 _ (List.mem_of_getElem? (i := 21) rfl)
theorem wd_22 : Cond.methodLink "RedoQuorum$Log" 3 ⟨"java/lang/Object", "<init>", "()V"⟩ ∈ lw_tbl := tk_1 _ (List.mem_of_getElem? (i := 22) rfl)
theorem wd_23 : Cond.fieldLink "RedoQuorum$Log" 11 "RedoQuorum$Log" "kind" "[I" ∈ lw_tbl := tk_1 _ (List.mem_of_getElem? (i := 23) rfl)
theorem wd_24 : Cond.fieldLink "RedoQuorum$Log" 15 "RedoQuorum$Log" "owner" "[I" ∈ lw_tbl := tk_1 _ (List.mem_of_getElem? (i := 24) rfl)
theorem wd_25 : Cond.fieldLink "RedoQuorum$Log" 18 "RedoQuorum$Log" "key" "[I" ∈ lw_tbl := tk_1 _ (List.mem_of_getElem? (i := 25) rfl)
theorem wd_26 : Cond.fieldLink "RedoQuorum$Log" 21 "RedoQuorum$Log" "value" "[I" ∈ lw_tbl := tk_1 _ (List.mem_of_getElem? (i := 26) rfl)
theorem wd_27 : Cond.fieldLink "RedoQuorum$Log" 24 "RedoQuorum$Log" "group" "[I" ∈ lw_tbl := tk_1 _ (List.mem_of_getElem? (i := 27) rfl)
theorem wd_28 : Cond.fieldLinkNest "RedoQuorum$StorageCopy" 45 "RedoQuorum$Log" "group" "[I" "RedoQuorum" ∈ lw_tbl := tk_1 _ (List.mem_of_getElem? (i := 28) rfl)
theorem wd_29 : Cond.fieldLinkNest "RedoQuorum" 120 "RedoQuorum$Log" "group" "[I" "RedoQuorum" ∈ lw_tbl := tk_1 _ (List.mem_of_getElem? (i := 29) rfl)
theorem wd_30 : Cond.fieldLink "RedoQuorum$Log" 27 "RedoQuorum$Log" "end" "[I" ∈ lw_tbl := tk_1 _ (List.mem_of_getElem? (i := 30) rfl)
theorem wd_31 : Cond.fieldLinkNest "RedoQuorum" 111 "RedoQuorum$Log" "end" "[I" "RedoQuorum" ∈ lw_tbl := tk_1 _ (List.mem_of_getElem? (i := 31) rfl)
theorem wd_32 : Cond.fieldLink "RedoQuorum$Log" 30 "RedoQuorum$Log" "size" "I" ∈ lw_tbl := tk_1 _ (List.mem_of_getElem? (i := 32) rfl)
theorem wd_33 : Cond.fieldLinkNest "RedoQuorum" 55 "RedoQuorum$Log" "size" "I" "RedoQuorum" ∈ lw_tbl := tk_1 _ (List.mem_of_getElem? (i := 33) rfl)
theorem wd_34 : Cond.fieldLinkNest "RedoQuorum$StorageCopy" 42 "RedoQuorum$Log" "size" "I" "RedoQuorum" ∈ lw_tbl := tk_1 _ (List.mem_of_getElem? (i := 34) rfl)
theorem wd_35 : Cond.laysFinal "RedoQuorum$Log" "RedoQuorum$Log" "kind" "[I" ∈ lw_tbl := tk_1 _ (List.mem_of_getElem? (i := 35) rfl)
theorem wd_37 : Cond.laysFinal "RedoQuorum$Log" "RedoQuorum$Log" "owner" "[I" ∈ lw_tbl := tk_1 _ (List.mem_of_getElem? (i := 37) rfl)
theorem wd_39 : Cond.laysFinal "RedoQuorum$Log" "RedoQuorum$Log" "key" "[I" ∈ lw_tbl := tk_1 _ (List.mem_of_getElem? (i := 39) rfl)
theorem wd_41 : Cond.laysFinal "RedoQuorum$Log" "RedoQuorum$Log" "value" "[I" ∈ lw_tbl := tk_1 _ (List.mem_of_getElem? (i := 41) rfl)
theorem wd_43 : Cond.laysFinal "RedoQuorum$Log" "RedoQuorum$Log" "group" "[I" ∈ lw_tbl := tk_1 _ (List.mem_of_getElem? (i := 43) rfl)
theorem wd_45 : Cond.laysFinal "RedoQuorum$Log" "RedoQuorum$Log" "end" "[I" ∈ lw_tbl := tk_1 _ (List.mem_of_getElem? (i := 45) rfl)
theorem wd_47 : Cond.lays "RedoQuorum$Log" "RedoQuorum$Log" "size" "I" ∈ lw_tbl := tk_1 _ (List.mem_of_getElem? (i := 47) rfl)
theorem wd_50 : Cond.arrayClass .int ∈ lw_tbl := tk_1 _ (List.mem_of_getElem? (i := 50) rfl)
theorem wd_51 : Cond.classLink "RedoQuorum" 16 "RedoQuorum$Transactions" ∈ lw_tbl := tk_1 _ (List.mem_of_getElem? (i := 51) rfl)
theorem wd_52 : Cond.instantiable "RedoQuorum$Transactions" 4 ∈ lw_tbl := tk_1 _ (List.mem_of_getElem? (i := 52) rfl)
theorem wd_53 : Cond.methodLinkNest "RedoQuorum" 18 ⟨"RedoQuorum$Transactions", "<init>", "()V"⟩ "RedoQuorum" ∈ lw_tbl := tk_1 _ (List.mem_of_getElem? (i := 53) rfl)
theorem wd_54 : Cond.instanceMethod ⟨"RedoQuorum$Transactions", "<init>", "()V"⟩ ∈ lw_tbl := tk_1 _ (List.mem_of_getElem? (i := 54) rfl)
theorem wd_55 : Cond.code ⟨"RedoQuorum$Transactions", "<init>", "()V"⟩ prog_6_method_1_code 1 (none : Option Jvm.ClassFile.FieldType) ∈ lw_tbl := tk_1 _ (List.mem_of_getElem? (i := 55) rfl)
theorem wd_56 : Cond.methodLink "RedoQuorum$Transactions" 3 ⟨"java/lang/Object", "<init>", "()V"⟩ ∈ lw_tbl := tk_1 _ (List.mem_of_getElem? (i := 56) rfl)
theorem wd_57 : Cond.fieldLink "RedoQuorum$Transactions" 9 "RedoQuorum$Transactions" "active" "[Z" ∈ lw_tbl := tk_1 _ (List.mem_of_getElem? (i := 57) rfl)
theorem wd_58 : Cond.fieldLink "RedoQuorum$Transactions" 15 "RedoQuorum$Transactions" "holder" "[I" ∈ lw_tbl := tk_1 _ (List.mem_of_getElem? (i := 58) rfl)
theorem wd_59 : Cond.fieldLink "RedoQuorum$Transactions" 19 "RedoQuorum$Transactions" "begun" "I" ∈ lw_tbl := tk_1 _ (List.mem_of_getElem? (i := 59) rfl)
theorem wd_60 : Cond.fieldLinkNest "RedoQuorum" 105 "RedoQuorum$Transactions" "begun" "I" "RedoQuorum" ∈ lw_tbl := tk_1 _ (List.mem_of_getElem? (i := 60) rfl)
theorem wd_61 : Cond.fieldLink "RedoQuorum$Transactions" 23 "RedoQuorum$Transactions" "activeCount" "I" ∈ lw_tbl := tk_1 _ (List.mem_of_getElem? (i := 61) rfl)
theorem wd_62 : Cond.laysFinal "RedoQuorum$Transactions" "RedoQuorum$Transactions" "active" "[Z" ∈ lw_tbl := tk_1 _ (List.mem_of_getElem? (i := 62) rfl)
theorem wd_64 : Cond.laysFinal "RedoQuorum$Transactions" "RedoQuorum$Transactions" "holder" "[I" ∈ lw_tbl := tk_1 _ (List.mem_of_getElem? (i := 64) rfl)
theorem wd_66 : Cond.lays "RedoQuorum$Transactions" "RedoQuorum$Transactions" "begun" "I" ∈ lw_tbl := tk_1 _ (List.mem_of_getElem? (i := 66) rfl)
theorem wd_68 : Cond.lays "RedoQuorum$Transactions" "RedoQuorum$Transactions" "activeCount" "I" ∈ lw_tbl := tk_1 _ (List.mem_of_getElem? (i := 68) rfl)
theorem wd_71 : Cond.arrayClass .boolean ∈ lw_tbl := tk_1 _ (List.mem_of_getElem? (i := 71) rfl)
theorem wd_72 : Cond.classLink "RedoQuorum" 23 "RedoQuorum$Group" ∈ lw_tbl := tk_1 _ (List.mem_of_getElem? (i := 72) rfl)
theorem wd_73 : Cond.arrayOver (.object "RedoQuorum$Group") ∈ lw_tbl := tk_1 _ (List.mem_of_getElem? (i := 73) rfl)
theorem wd_74 : Cond.instantiable "RedoQuorum$Group" 1 ∈ lw_tbl := tk_1 _ (List.mem_of_getElem? (i := 74) rfl)
theorem wd_75 : Cond.methodLink "RedoQuorum" 29 ⟨"RedoQuorum$Group", "<init>", "(I)V"⟩ ∈ lw_tbl := tk_1 _ (List.mem_of_getElem? (i := 75) rfl)
theorem wd_76 : Cond.instanceMethod ⟨"RedoQuorum$Group", "<init>", "(I)V"⟩ ∈ lw_tbl := tk_1 _ (List.mem_of_getElem? (i := 76) rfl)
theorem wd_77 : Cond.code ⟨"RedoQuorum$Group", "<init>", "(I)V"⟩ prog_3_method_1_code 3 (none : Option Jvm.ClassFile.FieldType) ∈ lw_tbl := tk_1 _ (List.mem_of_getElem? (i := 77) rfl)
theorem wd_78 : Cond.methodLink "RedoQuorum$Group" 3 ⟨"java/lang/Object", "<init>", "()V"⟩ ∈ lw_tbl := tk_1 _ (List.mem_of_getElem? (i := 78) rfl)
theorem wd_79 : Cond.classLink "RedoQuorum$Group" 9 "RedoQuorum$StorageCopy" ∈ lw_tbl := tk_1 _ (List.mem_of_getElem? (i := 79) rfl)
theorem wd_80 : Cond.arrayOver (.object "RedoQuorum$StorageCopy") ∈ lw_tbl := tk_1 _ (List.mem_of_getElem? (i := 80) rfl)
theorem wd_81 : Cond.instantiable "RedoQuorum$StorageCopy" 5 ∈ lw_tbl := tk_1 _ (List.mem_of_getElem? (i := 81) rfl)
theorem wd_82 : Cond.methodLink "RedoQuorum$Group" 17 ⟨"RedoQuorum$StorageCopy", "<init>", "(I)V"⟩ ∈ lw_tbl := tk_1 _ (List.mem_of_getElem? (i := 82) rfl)
theorem wd_83 : Cond.instanceMethod ⟨"RedoQuorum$StorageCopy", "<init>", "(I)V"⟩ ∈ lw_tbl := tk_1 _ (List.mem_of_getElem? (i := 83) rfl)
theorem wd_84 : Cond.code ⟨"RedoQuorum$StorageCopy", "<init>", "(I)V"⟩ prog_5_method_1_code 2 (none : Option Jvm.ClassFile.FieldType) ∈ lw_tbl := tk_1 _ (List.mem_of_getElem? (i := 84) rfl)
theorem wd_85 : Cond.methodLink "RedoQuorum$StorageCopy" 1 ⟨"java/lang/Object", "<init>", "()V"⟩ ∈ lw_tbl := tk_1 _ (List.mem_of_getElem? (i := 85) rfl)
theorem wd_86 : Cond.fieldLink "RedoQuorum$StorageCopy" 25 "RedoQuorum$StorageCopy" "group" "I" ∈ lw_tbl := tk_1 _ (List.mem_of_getElem? (i := 86) rfl)
theorem wd_87 : Cond.fieldLink "RedoQuorum$StorageCopy" 9 "RedoQuorum$StorageCopy" "held" "[Z" ∈ lw_tbl := tk_1 _ (List.mem_of_getElem? (i := 87) rfl)
theorem wd_88 : Cond.fieldLinkNest "RedoQuorum$Group" 24 "RedoQuorum$StorageCopy" "held" "[Z" "RedoQuorum" ∈ lw_tbl := tk_1 _ (List.mem_of_getElem? (i := 88) rfl)
theorem wd_89 : Cond.fieldLink "RedoQuorum$StorageCopy" 15 "RedoQuorum$StorageCopy" "state" "I" ∈ lw_tbl := tk_1 _ (List.mem_of_getElem? (i := 89) rfl)
theorem wd_90 : Cond.fieldLinkNest "RedoQuorum$Group" 40 "RedoQuorum$StorageCopy" "state" "I" "RedoQuorum" ∈ lw_tbl := tk_1 _ (List.mem_of_getElem? (i := 90) rfl)
theorem wd_91 : Cond.fieldLinkNest "RedoQuorum" 199 "RedoQuorum$StorageCopy" "state" "I" "RedoQuorum" ∈ lw_tbl := tk_1 _ (List.mem_of_getElem? (i := 91) rfl)
theorem wd_92 : Cond.fieldLink "RedoQuorum$StorageCopy" 19 "RedoQuorum$StorageCopy" "fold" "I" ∈ lw_tbl := tk_1 _ (List.mem_of_getElem? (i := 92) rfl)
theorem wd_93 : Cond.fieldLink "RedoQuorum$StorageCopy" 22 "RedoQuorum$StorageCopy" "reported" "I" ∈ lw_tbl := tk_1 _ (List.mem_of_getElem? (i := 93) rfl)
theorem wd_94 : Cond.fieldLinkNest "RedoQuorum$Group" 32 "RedoQuorum$StorageCopy" "reported" "I" "RedoQuorum" ∈ lw_tbl := tk_1 _ (List.mem_of_getElem? (i := 94) rfl)
theorem wd_95 : Cond.fieldLinkNest "RedoQuorum" 153 "RedoQuorum$StorageCopy" "reported" "I" "RedoQuorum" ∈ lw_tbl := tk_1 _ (List.mem_of_getElem? (i := 95) rfl)
theorem wd_96 : Cond.laysFinal "RedoQuorum$StorageCopy" "RedoQuorum$StorageCopy" "group" "I" ∈ lw_tbl := tk_1 _ (List.mem_of_getElem? (i := 96) rfl)
theorem wd_98 : Cond.laysFinal "RedoQuorum$StorageCopy" "RedoQuorum$StorageCopy" "held" "[Z" ∈ lw_tbl := tk_1 _ (List.mem_of_getElem? (i := 98) rfl)
theorem wd_100 : Cond.lays "RedoQuorum$StorageCopy" "RedoQuorum$StorageCopy" "state" "I" ∈ lw_tbl := tk_1 _ (List.mem_of_getElem? (i := 100) rfl)
theorem wd_102 : Cond.lays "RedoQuorum$StorageCopy" "RedoQuorum$StorageCopy" "fold" "I" ∈ lw_tbl := tk_1 _ (List.mem_of_getElem? (i := 102) rfl)
theorem wd_104 : Cond.lays "RedoQuorum$StorageCopy" "RedoQuorum$StorageCopy" "reported" "I" ∈ lw_tbl := tk_1 _ (List.mem_of_getElem? (i := 104) rfl)
theorem wd_107 : Cond.fieldLink "RedoQuorum$Group" 11 "RedoQuorum$Group" "copies" "[LRedoQuorum$StorageCopy;" ∈ lw_tbl := tk_1 _ (List.mem_of_getElem? (i := 107) rfl)
theorem wd_108 : Cond.fieldLinkNest "RedoQuorum" 123 "RedoQuorum$Group" "copies" "[LRedoQuorum$StorageCopy;" "RedoQuorum" ∈ lw_tbl := tk_1 _ (List.mem_of_getElem? (i := 108) rfl)
theorem wd_109 : Cond.laysFinal "RedoQuorum$Group" "RedoQuorum$Group" "copies" "[LRedoQuorum$StorageCopy;" ∈ lw_tbl := tk_1 _ (List.mem_of_getElem? (i := 109) rfl)
theorem wd_112 : Cond.classLink "RedoQuorum" 32 "RedoQuorum$Cache" ∈ lw_tbl := tk_1 _ (List.mem_of_getElem? (i := 112) rfl)
theorem wd_113 : Cond.instantiable "RedoQuorum$Cache" 2 ∈ lw_tbl := tk_1 _ (List.mem_of_getElem? (i := 113) rfl)
theorem wd_114 : Cond.methodLinkNest "RedoQuorum" 34 ⟨"RedoQuorum$Cache", "<init>", "()V"⟩ "RedoQuorum" ∈ lw_tbl := tk_1 _ (List.mem_of_getElem? (i := 114) rfl)
theorem wd_115 : Cond.instanceMethod ⟨"RedoQuorum$Cache", "<init>", "()V"⟩ ∈ lw_tbl := tk_1 _ (List.mem_of_getElem? (i := 115) rfl)
theorem wd_116 : Cond.code ⟨"RedoQuorum$Cache", "<init>", "()V"⟩ prog_2_method_1_code 1 (none : Option Jvm.ClassFile.FieldType) ∈ lw_tbl := tk_1 _ (List.mem_of_getElem? (i := 116) rfl)
theorem wd_117 : Cond.methodLink "RedoQuorum$Cache" 1 ⟨"java/lang/Object", "<init>", "()V"⟩ ∈ lw_tbl := tk_1 _ (List.mem_of_getElem? (i := 117) rfl)
theorem wd_118 : Cond.fieldLink "RedoQuorum$Cache" 9 "RedoQuorum$Cache" "pages" "[I" ∈ lw_tbl := tk_1 _ (List.mem_of_getElem? (i := 118) rfl)
theorem wd_119 : Cond.fieldLinkNest "RedoQuorum" 255 "RedoQuorum$Cache" "pages" "[I" "RedoQuorum" ∈ lw_tbl := tk_1 _ (List.mem_of_getElem? (i := 119) rfl)
theorem wd_120 : Cond.fieldLink "RedoQuorum$Cache" 13 "RedoQuorum$Cache" "count" "I" ∈ lw_tbl := tk_1 _ (List.mem_of_getElem? (i := 120) rfl)
theorem wd_121 : Cond.fieldLinkNest "RedoQuorum" 252 "RedoQuorum$Cache" "count" "I" "RedoQuorum" ∈ lw_tbl := tk_1 _ (List.mem_of_getElem? (i := 121) rfl)
theorem wd_122 : Cond.laysFinal "RedoQuorum$Cache" "RedoQuorum$Cache" "pages" "[I" ∈ lw_tbl := tk_1 _ (List.mem_of_getElem? (i := 122) rfl)
theorem wd_124 : Cond.lays "RedoQuorum$Cache" "RedoQuorum$Cache" "count" "I" ∈ lw_tbl := tk_1 _ (List.mem_of_getElem? (i := 124) rfl)
theorem wd_127 : Cond.fieldLink "RedoQuorum" 10 "RedoQuorum" "log" "LRedoQuorum$Log;" ∈ lw_tbl := tk_1 _ (List.mem_of_getElem? (i := 127) rfl)
theorem wd_128 : Cond.fieldLink "RedoQuorum" 19 "RedoQuorum" "transactions" "LRedoQuorum$Transactions;" ∈ lw_tbl := tk_1 _ (List.mem_of_getElem? (i := 128) rfl)
theorem wd_129 : Cond.fieldLink "RedoQuorum" 25 "RedoQuorum" "groups" "[LRedoQuorum$Group;" ∈ lw_tbl := tk_1 _ (List.mem_of_getElem? (i := 129) rfl)
theorem wd_130 : Cond.fieldLink "RedoQuorum" 35 "RedoQuorum" "cache" "LRedoQuorum$Cache;" ∈ lw_tbl := tk_1 _ (List.mem_of_getElem? (i := 130) rfl)
theorem wd_131 : Cond.fieldLink "RedoQuorum" 39 "RedoQuorum" "views" "[I" ∈ lw_tbl := tk_1 _ (List.mem_of_getElem? (i := 131) rfl)
theorem wd_132 : Cond.fieldLink "RedoQuorum" 43 "RedoQuorum" "up" "Z" ∈ lw_tbl := tk_1 _ (List.mem_of_getElem? (i := 132) rfl)
theorem wd_133 : Cond.fieldLink "RedoQuorum" 47 "RedoQuorum" "durable" "I" ∈ lw_tbl := tk_1 _ (List.mem_of_getElem? (i := 133) rfl)
theorem wd_134 : Cond.laysFinal "RedoQuorum" "RedoQuorum" "log" "LRedoQuorum$Log;" ∈ lw_tbl := tk_1 _ (List.mem_of_getElem? (i := 134) rfl)
theorem wd_136 : Cond.laysFinal "RedoQuorum" "RedoQuorum" "transactions" "LRedoQuorum$Transactions;" ∈ lw_tbl := tk_1 _ (List.mem_of_getElem? (i := 136) rfl)
theorem wd_138 : Cond.laysFinal "RedoQuorum" "RedoQuorum" "groups" "[LRedoQuorum$Group;" ∈ lw_tbl := tk_1 _ (List.mem_of_getElem? (i := 138) rfl)
theorem wd_140 : Cond.laysFinal "RedoQuorum" "RedoQuorum" "cache" "LRedoQuorum$Cache;" ∈ lw_tbl := tk_1 _ (List.mem_of_getElem? (i := 140) rfl)
theorem wd_142 : Cond.laysFinal "RedoQuorum" "RedoQuorum" "views" "[I" ∈ lw_tbl := tk_1 _ (List.mem_of_getElem? (i := 142) rfl)
theorem wd_144 : Cond.lays "RedoQuorum" "RedoQuorum" "up" "Z" ∈ lw_tbl := tk_1 _ (List.mem_of_getElem? (i := 144) rfl)
theorem wd_146 : Cond.lays "RedoQuorum" "RedoQuorum" "durable" "I" ∈ lw_tbl := tk_1 _ (List.mem_of_getElem? (i := 146) rfl)
theorem wd_149 : Cond.methodLink "RedoQuorumLaw" 13 ⟨"RedoQuorum", "begin", "()I"⟩ ∈ lw_tbl := tk_1 _ (List.mem_of_getElem? (i := 149) rfl)
theorem wd_150 : Cond.instanceMethod ⟨"RedoQuorum", "begin", "()I"⟩ ∈ lw_tbl := tk_1 _ (List.mem_of_getElem? (i := 150) rfl)
theorem wd_151 : Cond.selects "RedoQuorum" ⟨"RedoQuorum", "begin", "()I"⟩ ⟨"RedoQuorum", "begin", "()I"⟩ ∈ lw_tbl := tk_1 _ (List.mem_of_getElem? (i := 151) rfl)
theorem wd_152 : Cond.code ⟨"RedoQuorum", "begin", "()I"⟩ prog_1_method_2_code 1 (some .int) ∈ lw_tbl := tk_1 _ (List.mem_of_getElem? (i := 152) rfl)
theorem wd_153 : Cond.methodLink "RedoQuorum" 51 ⟨"RedoQuorum$Transactions", "isFull", "()Z"⟩ ∈ lw_tbl := tk_1 _ (List.mem_of_getElem? (i := 153) rfl)
theorem wd_154 : Cond.instanceMethod ⟨"RedoQuorum$Transactions", "isFull", "()Z"⟩ ∈ lw_tbl := tk_1 _ (List.mem_of_getElem? (i := 154) rfl)
theorem wd_155 : Cond.selects "RedoQuorum$Transactions" ⟨"RedoQuorum$Transactions", "isFull", "()Z"⟩ ⟨"RedoQuorum$Transactions", "isFull", "()Z"⟩ ∈ lw_tbl := tk_1 _ (List.mem_of_getElem? (i := 155) rfl)
theorem wd_156 : Cond.code ⟨"RedoQuorum$Transactions", "isFull", "()Z"⟩ prog_6_method_2_code 1 (some .boolean) ∈ lw_tbl := tk_1 _ (List.mem_of_getElem? (i := 156) rfl)
theorem wd_157 : Cond.methodLink "RedoQuorum" 58 ⟨"RedoQuorum$Transactions", "start", "()I"⟩ ∈ lw_tbl := tk_1 _ (List.mem_of_getElem? (i := 157) rfl)
theorem wd_158 : Cond.instanceMethod ⟨"RedoQuorum$Transactions", "start", "()I"⟩ ∈ lw_tbl := tk_1 _ (List.mem_of_getElem? (i := 158) rfl)
theorem wd_159 : Cond.selects "RedoQuorum$Transactions" ⟨"RedoQuorum$Transactions", "start", "()I"⟩ ⟨"RedoQuorum$Transactions", "start", "()I"⟩ ∈ lw_tbl := tk_1 _ (List.mem_of_getElem? (i := 159) rfl)
theorem wd_160 : Cond.code ⟨"RedoQuorum$Transactions", "start", "()I"⟩ prog_6_method_3_code 1 (some .int) ∈ lw_tbl := tk_1 _ (List.mem_of_getElem? (i := 160) rfl)
theorem wd_161 : Cond.methodLink "RedoQuorumLaw" 18 ⟨"RedoQuorum", "read", "(II)I"⟩ ∈ lw_tbl := tk_1 _ (List.mem_of_getElem? (i := 161) rfl)
theorem wd_162 : Cond.instanceMethod ⟨"RedoQuorum", "read", "(II)I"⟩ ∈ lw_tbl := tk_1 _ (List.mem_of_getElem? (i := 162) rfl)
theorem wd_163 : Cond.selects "RedoQuorum" ⟨"RedoQuorum", "read", "(II)I"⟩ ⟨"RedoQuorum", "read", "(II)I"⟩ ∈ lw_tbl := tk_1 _ (List.mem_of_getElem? (i := 163) rfl)
theorem wd_164 : Cond.code ⟨"RedoQuorum", "read", "(II)I"⟩ prog_1_method_3_code 4 (some .int) ∈ lw_tbl := tk_1 _ (List.mem_of_getElem? (i := 164) rfl)
theorem wd_165 : Cond.methodLink "RedoQuorum" 62 ⟨"RedoQuorum", "isKey", "(I)Z"⟩ ∈ lw_tbl := tk_1 _ (List.mem_of_getElem? (i := 165) rfl)
theorem wd_166 : Cond.static ⟨"RedoQuorum", "isKey", "(I)Z"⟩ ∈ lw_tbl := tk_1 _ (List.mem_of_getElem? (i := 166) rfl)
theorem wd_167 : Cond.code ⟨"RedoQuorum", "isKey", "(I)Z"⟩ prog_1_method_21_code 1 (some .boolean) ∈ lw_tbl := tk_1 _ (List.mem_of_getElem? (i := 167) rfl)
theorem wd_168 : Cond.methodLink "RedoQuorum" 66 ⟨"RedoQuorum", "refusalOfKeys", "(III)I"⟩ ∈ lw_tbl := tk_1 _ (List.mem_of_getElem? (i := 168) rfl)
theorem wd_170 : Cond.instanceMethod ⟨"RedoQuorum", "refusalOfKeys", "(III)I"⟩ ∈ lw_tbl := tk_1 _ (List.mem_of_getElem? (i := 170) rfl)
theorem wd_171 : Cond.code ⟨"RedoQuorum", "refusalOfKeys", "(III)I"⟩ prog_1_method_27_code 5 (some .int) ∈ lw_tbl := tk_1 _ (List.mem_of_getElem? (i := 171) rfl)
theorem wd_172 : Cond.methodLink "RedoQuorum" 92 ⟨"RedoQuorum", "refusalOfTransaction", "(I)I"⟩ ∈ lw_tbl := tk_1 _ (List.mem_of_getElem? (i := 172) rfl)
theorem wd_174 : Cond.instanceMethod ⟨"RedoQuorum", "refusalOfTransaction", "(I)I"⟩ ∈ lw_tbl := tk_1 _ (List.mem_of_getElem? (i := 174) rfl)
theorem wd_175 : Cond.code ⟨"RedoQuorum", "refusalOfTransaction", "(I)I"⟩ prog_1_method_26_code 2 (some .int) ∈ lw_tbl := tk_1 _ (List.mem_of_getElem? (i := 175) rfl)
theorem wd_176 : Cond.methodLink "RedoQuorum" 108 ⟨"RedoQuorum$Transactions", "isActive", "(I)Z"⟩ ∈ lw_tbl := tk_1 _ (List.mem_of_getElem? (i := 176) rfl)
theorem wd_177 : Cond.instanceMethod ⟨"RedoQuorum$Transactions", "isActive", "(I)Z"⟩ ∈ lw_tbl := tk_1 _ (List.mem_of_getElem? (i := 177) rfl)
theorem wd_178 : Cond.selects "RedoQuorum$Transactions" ⟨"RedoQuorum$Transactions", "isActive", "(I)Z"⟩ ⟨"RedoQuorum$Transactions", "isActive", "(I)Z"⟩ ∈ lw_tbl := tk_1 _ (List.mem_of_getElem? (i := 178) rfl)
theorem wd_179 : Cond.code ⟨"RedoQuorum$Transactions", "isActive", "(I)Z"⟩ prog_6_method_4_code 2 (some .boolean) ∈ lw_tbl := tk_1 _ (List.mem_of_getElem? (i := 179) rfl)
theorem wd_180 : Cond.methodLink "RedoQuorum" 236 ⟨"RedoQuorum$Transactions", "mayHold", "(II)Z"⟩ ∈ lw_tbl := tk_1 _ (List.mem_of_getElem? (i := 180) rfl)
theorem wd_181 : Cond.instanceMethod ⟨"RedoQuorum$Transactions", "mayHold", "(II)Z"⟩ ∈ lw_tbl := tk_1 _ (List.mem_of_getElem? (i := 181) rfl)
theorem wd_182 : Cond.selects "RedoQuorum$Transactions" ⟨"RedoQuorum$Transactions", "mayHold", "(II)Z"⟩ ⟨"RedoQuorum$Transactions", "mayHold", "(II)Z"⟩ ∈ lw_tbl := tk_1 _ (List.mem_of_getElem? (i := 182) rfl)
theorem wd_183 : Cond.code ⟨"RedoQuorum$Transactions", "mayHold", "(II)Z"⟩ prog_6_method_5_code 3 (some .boolean) ∈ lw_tbl := tk_1 _ (List.mem_of_getElem? (i := 183) rfl)
theorem wd_184 : Cond.methodLink "RedoQuorum" 70 ⟨"RedoQuorum", "pageOf", "(I)I"⟩ ∈ lw_tbl := tk_1 _ (List.mem_of_getElem? (i := 184) rfl)
theorem wd_185 : Cond.static ⟨"RedoQuorum", "pageOf", "(I)I"⟩ ∈ lw_tbl := tk_1 _ (List.mem_of_getElem? (i := 185) rfl)
theorem wd_186 : Cond.code ⟨"RedoQuorum", "pageOf", "(I)I"⟩ prog_1_method_24_code 1 (some .int) ∈ lw_tbl := tk_1 _ (List.mem_of_getElem? (i := 186) rfl)
theorem wd_187 : Cond.methodLink "RedoQuorum" 74 ⟨"RedoQuorum", "touch", "(II)I"⟩ ∈ lw_tbl := tk_1 _ (List.mem_of_getElem? (i := 187) rfl)
theorem wd_189 : Cond.instanceMethod ⟨"RedoQuorum", "touch", "(II)I"⟩ ∈ lw_tbl := tk_1 _ (List.mem_of_getElem? (i := 189) rfl)
theorem wd_190 : Cond.code ⟨"RedoQuorum", "touch", "(II)I"⟩ prog_1_method_30_code 4 (some .int) ∈ lw_tbl := tk_1 _ (List.mem_of_getElem? (i := 190) rfl)
theorem wd_191 : Cond.methodLink "RedoQuorum" 233 ⟨"RedoQuorum$Cache", "rankOf", "(I)I"⟩ ∈ lw_tbl := tk_1 _ (List.mem_of_getElem? (i := 191) rfl)
theorem wd_192 : Cond.instanceMethod ⟨"RedoQuorum$Cache", "rankOf", "(I)I"⟩ ∈ lw_tbl := tk_1 _ (List.mem_of_getElem? (i := 192) rfl)
theorem wd_193 : Cond.selects "RedoQuorum$Cache" ⟨"RedoQuorum$Cache", "rankOf", "(I)I"⟩ ⟨"RedoQuorum$Cache", "rankOf", "(I)I"⟩ ∈ lw_tbl := tk_1 _ (List.mem_of_getElem? (i := 193) rfl)
theorem wd_194 : Cond.code ⟨"RedoQuorum$Cache", "rankOf", "(I)I"⟩ prog_2_method_3_code 3 (some .int) ∈ lw_tbl := tk_1 _ (List.mem_of_getElem? (i := 194) rfl)
theorem wd_195 : Cond.methodLink "RedoQuorum" 239 ⟨"RedoQuorum$Cache", "remove", "(I)V"⟩ ∈ lw_tbl := tk_1 _ (List.mem_of_getElem? (i := 195) rfl)
theorem wd_196 : Cond.instanceMethod ⟨"RedoQuorum$Cache", "remove", "(I)V"⟩ ∈ lw_tbl := tk_1 _ (List.mem_of_getElem? (i := 196) rfl)
theorem wd_197 : Cond.selects "RedoQuorum$Cache" ⟨"RedoQuorum$Cache", "remove", "(I)V"⟩ ⟨"RedoQuorum$Cache", "remove", "(I)V"⟩ ∈ lw_tbl := tk_1 _ (List.mem_of_getElem? (i := 197) rfl)
theorem wd_198 : Cond.code ⟨"RedoQuorum$Cache", "remove", "(I)V"⟩ prog_2_method_5_code 4 (none : Option Jvm.ClassFile.FieldType) ∈ lw_tbl := tk_1 _ (List.mem_of_getElem? (i := 198) rfl)
theorem wd_199 : Cond.methodLink "RedoQuorum" 242 ⟨"RedoQuorum$Cache", "append", "(I)V"⟩ ∈ lw_tbl := tk_1 _ (List.mem_of_getElem? (i := 199) rfl)
theorem wd_200 : Cond.instanceMethod ⟨"RedoQuorum$Cache", "append", "(I)V"⟩ ∈ lw_tbl := tk_1 _ (List.mem_of_getElem? (i := 200) rfl)
theorem wd_201 : Cond.selects "RedoQuorum$Cache" ⟨"RedoQuorum$Cache", "append", "(I)V"⟩ ⟨"RedoQuorum$Cache", "append", "(I)V"⟩ ∈ lw_tbl := tk_1 _ (List.mem_of_getElem? (i := 201) rfl)
theorem wd_202 : Cond.code ⟨"RedoQuorum$Cache", "append", "(I)V"⟩ prog_2_method_4_code 2 (none : Option Jvm.ClassFile.FieldType) ∈ lw_tbl := tk_1 _ (List.mem_of_getElem? (i := 202) rfl)
theorem wd_203 : Cond.methodLink "RedoQuorum" 245 ⟨"RedoQuorum", "pageThatMayGo", "(I)I"⟩ ∈ lw_tbl := tk_1 _ (List.mem_of_getElem? (i := 203) rfl)
theorem wd_205 : Cond.instanceMethod ⟨"RedoQuorum", "pageThatMayGo", "(I)I"⟩ ∈ lw_tbl := tk_1 _ (List.mem_of_getElem? (i := 205) rfl)
theorem wd_206 : Cond.code ⟨"RedoQuorum", "pageThatMayGo", "(I)I"⟩ prog_1_method_31_code 4 (some .int) ∈ lw_tbl := tk_1 _ (List.mem_of_getElem? (i := 206) rfl)
theorem wd_207 : Cond.methodLink "RedoQuorum" 248 ⟨"RedoQuorum", "isAheadOfDurable", "(I)Z"⟩ ∈ lw_tbl := tk_1 _ (List.mem_of_getElem? (i := 207) rfl)
theorem wd_209 : Cond.instanceMethod ⟨"RedoQuorum", "isAheadOfDurable", "(I)Z"⟩ ∈ lw_tbl := tk_1 _ (List.mem_of_getElem? (i := 209) rfl)
theorem wd_210 : Cond.code ⟨"RedoQuorum", "isAheadOfDurable", "(I)Z"⟩ prog_1_method_32_code 2 (some .boolean) ∈ lw_tbl := tk_1 _ (List.mem_of_getElem? (i := 210) rfl)
theorem wd_211 : Cond.methodLink "RedoQuorum" 258 ⟨"RedoQuorum$Log", "latestOf", "(I)I"⟩ ∈ lw_tbl := tk_1 _ (List.mem_of_getElem? (i := 211) rfl)
theorem wd_212 : Cond.instanceMethod ⟨"RedoQuorum$Log", "latestOf", "(I)I"⟩ ∈ lw_tbl := tk_1 _ (List.mem_of_getElem? (i := 212) rfl)
theorem wd_213 : Cond.selects "RedoQuorum$Log" ⟨"RedoQuorum$Log", "latestOf", "(I)I"⟩ ⟨"RedoQuorum$Log", "latestOf", "(I)I"⟩ ∈ lw_tbl := tk_1 _ (List.mem_of_getElem? (i := 213) rfl)
theorem wd_214 : Cond.code ⟨"RedoQuorum$Log", "latestOf", "(I)I"⟩ prog_4_method_13_code 3 (some .int) ∈ lw_tbl := tk_1 _ (List.mem_of_getElem? (i := 214) rfl)
theorem wd_215 : Cond.methodLink "RedoQuorum$Log" 72 ⟨"RedoQuorum$Log", "isEnd", "(I)Z"⟩ ∈ lw_tbl := tk_1 _ (List.mem_of_getElem? (i := 215) rfl)
theorem wd_216 : Cond.instanceMethod ⟨"RedoQuorum$Log", "isEnd", "(I)Z"⟩ ∈ lw_tbl := tk_1 _ (List.mem_of_getElem? (i := 216) rfl)
theorem wd_217 : Cond.selects "RedoQuorum$Log" ⟨"RedoQuorum$Log", "isEnd", "(I)Z"⟩ ⟨"RedoQuorum$Log", "isEnd", "(I)Z"⟩ ∈ lw_tbl := tk_1 _ (List.mem_of_getElem? (i := 217) rfl)
theorem wd_218 : Cond.code ⟨"RedoQuorum$Log", "isEnd", "(I)Z"⟩ prog_4_method_8_code 2 (some .boolean) ∈ lw_tbl := tk_1 _ (List.mem_of_getElem? (i := 218) rfl)
theorem wd_219 : Cond.methodLinkNest "RedoQuorum$Log" 34 ⟨"RedoQuorum", "pageOf", "(I)I"⟩ "RedoQuorum" ∈ lw_tbl := tk_1 _ (List.mem_of_getElem? (i := 219) rfl)
theorem wd_220 : Cond.methodLink "RedoQuorum" 251 ⟨"RedoQuorum$Cache", "isFull", "()Z"⟩ ∈ lw_tbl := tk_1 _ (List.mem_of_getElem? (i := 220) rfl)
theorem wd_221 : Cond.instanceMethod ⟨"RedoQuorum$Cache", "isFull", "()Z"⟩ ∈ lw_tbl := tk_1 _ (List.mem_of_getElem? (i := 221) rfl)
theorem wd_222 : Cond.selects "RedoQuorum$Cache" ⟨"RedoQuorum$Cache", "isFull", "()Z"⟩ ⟨"RedoQuorum$Cache", "isFull", "()Z"⟩ ∈ lw_tbl := tk_1 _ (List.mem_of_getElem? (i := 222) rfl)
theorem wd_223 : Cond.code ⟨"RedoQuorum$Cache", "isFull", "()Z"⟩ prog_2_method_2_code 1 (some .boolean) ∈ lw_tbl := tk_1 _ (List.mem_of_getElem? (i := 223) rfl)
theorem wd_224 : Cond.methodLink "RedoQuorum" 212 ⟨"RedoQuorum", "groupOfPage", "(I)I"⟩ ∈ lw_tbl := tk_1 _ (List.mem_of_getElem? (i := 224) rfl)
theorem wd_225 : Cond.static ⟨"RedoQuorum", "groupOfPage", "(I)I"⟩ ∈ lw_tbl := tk_1 _ (List.mem_of_getElem? (i := 225) rfl)
theorem wd_226 : Cond.code ⟨"RedoQuorum", "groupOfPage", "(I)I"⟩ prog_1_method_25_code 1 (some .int) ∈ lw_tbl := tk_1 _ (List.mem_of_getElem? (i := 226) rfl)
theorem wd_227 : Cond.methodLink "RedoQuorum" 215 ⟨"RedoQuorum$Group", "serves", "(ILRedoQuorum$Log;)Z"⟩ ∈ lw_tbl := tk_1 _ (List.mem_of_getElem? (i := 227) rfl)
theorem wd_228 : Cond.instanceMethod ⟨"RedoQuorum$Group", "serves", "(ILRedoQuorum$Log;)Z"⟩ ∈ lw_tbl := tk_1 _ (List.mem_of_getElem? (i := 228) rfl)
theorem wd_229 : Cond.selects "RedoQuorum$Group" ⟨"RedoQuorum$Group", "serves", "(ILRedoQuorum$Log;)Z"⟩ ⟨"RedoQuorum$Group", "serves", "(ILRedoQuorum$Log;)Z"⟩ ∈ lw_tbl := tk_1 _ (List.mem_of_getElem? (i := 229) rfl)
theorem wd_230 : Cond.code ⟨"RedoQuorum$Group", "serves", "(ILRedoQuorum$Log;)Z"⟩ prog_3_method_4_code 4 (some .boolean) ∈ lw_tbl := tk_1 _ (List.mem_of_getElem? (i := 230) rfl)
theorem wd_231 : Cond.methodLink "RedoQuorum$Group" 20 ⟨"RedoQuorum$StorageCopy", "isLive", "()Z"⟩ ∈ lw_tbl := tk_1 _ (List.mem_of_getElem? (i := 231) rfl)
theorem wd_232 : Cond.instanceMethod ⟨"RedoQuorum$StorageCopy", "isLive", "()Z"⟩ ∈ lw_tbl := tk_1 _ (List.mem_of_getElem? (i := 232) rfl)
theorem wd_233 : Cond.selects "RedoQuorum$StorageCopy" ⟨"RedoQuorum$StorageCopy", "isLive", "()Z"⟩ ⟨"RedoQuorum$StorageCopy", "isLive", "()Z"⟩ ∈ lw_tbl := tk_1 _ (List.mem_of_getElem? (i := 233) rfl)
theorem wd_234 : Cond.code ⟨"RedoQuorum$StorageCopy", "isLive", "()Z"⟩ prog_5_method_2_code 1 (some .boolean) ∈ lw_tbl := tk_1 _ (List.mem_of_getElem? (i := 234) rfl)
theorem wd_235 : Cond.methodLink "RedoQuorum$Group" 28 ⟨"RedoQuorum$StorageCopy", "holdsAllUpTo", "(ILRedoQuorum$Log;)Z"⟩ ∈ lw_tbl := tk_1 _ (List.mem_of_getElem? (i := 235) rfl)
theorem wd_236 : Cond.instanceMethod ⟨"RedoQuorum$StorageCopy", "holdsAllUpTo", "(ILRedoQuorum$Log;)Z"⟩ ∈ lw_tbl := tk_1 _ (List.mem_of_getElem? (i := 236) rfl)
theorem wd_237 : Cond.selects "RedoQuorum$StorageCopy" ⟨"RedoQuorum$StorageCopy", "holdsAllUpTo", "(ILRedoQuorum$Log;)Z"⟩ ⟨"RedoQuorum$StorageCopy", "holdsAllUpTo", "(ILRedoQuorum$Log;)Z"⟩ ∈ lw_tbl := tk_1 _ (List.mem_of_getElem? (i := 237) rfl)
theorem wd_238 : Cond.code ⟨"RedoQuorum$StorageCopy", "holdsAllUpTo", "(ILRedoQuorum$Log;)Z"⟩ prog_5_method_10_code 4 (some .boolean) ∈ lw_tbl := tk_1 _ (List.mem_of_getElem? (i := 238) rfl)
theorem wd_239 : Cond.methodLink "RedoQuorum" 78 ⟨"RedoQuorum$Transactions", "hold", "(II)V"⟩ ∈ lw_tbl := tk_1 _ (List.mem_of_getElem? (i := 239) rfl)
theorem wd_240 : Cond.instanceMethod ⟨"RedoQuorum$Transactions", "hold", "(II)V"⟩ ∈ lw_tbl := tk_2 _ (List.mem_of_getElem? (i := 0) rfl)
theorem wd_241 : Cond.selects "RedoQuorum$Transactions" ⟨"RedoQuorum$Transactions", "hold", "(II)V"⟩ ⟨"RedoQuorum$Transactions", "hold", "(II)V"⟩ ∈ lw_tbl := tk_2 _ (List.mem_of_getElem? (i := 1) rfl)
theorem wd_242 : Cond.code ⟨"RedoQuorum$Transactions", "hold", "(II)V"⟩ prog_6_method_6_code 3 (none : Option Jvm.ClassFile.FieldType) ∈ lw_tbl := tk_2 _ (List.mem_of_getElem? (i := 2) rfl)
theorem wd_243 : Cond.methodLink "RedoQuorum" 82 ⟨"RedoQuorum$Log", "valueUpTo", "(II)I"⟩ ∈ lw_tbl := tk_2 _ (List.mem_of_getElem? (i := 3) rfl)
theorem wd_244 : Cond.instanceMethod ⟨"RedoQuorum$Log", "valueUpTo", "(II)I"⟩ ∈ lw_tbl := tk_2 _ (List.mem_of_getElem? (i := 4) rfl)
theorem wd_245 : Cond.selects "RedoQuorum$Log" ⟨"RedoQuorum$Log", "valueUpTo", "(II)I"⟩ ⟨"RedoQuorum$Log", "valueUpTo", "(II)I"⟩ ∈ lw_tbl := tk_2 _ (List.mem_of_getElem? (i := 5) rfl)
theorem wd_246 : Cond.code ⟨"RedoQuorum$Log", "valueUpTo", "(II)I"⟩ prog_4_method_11_code 4 (some .int) ∈ lw_tbl := tk_2 _ (List.mem_of_getElem? (i := 6) rfl)
theorem wd_247 : Cond.methodLink "RedoQuorumLaw" 23 ⟨"RedoQuorum", "write", "(III)I"⟩ ∈ lw_tbl := tk_2 _ (List.mem_of_getElem? (i := 7) rfl)
theorem wd_248 : Cond.instanceMethod ⟨"RedoQuorum", "write", "(III)I"⟩ ∈ lw_tbl := tk_2 _ (List.mem_of_getElem? (i := 8) rfl)
theorem wd_249 : Cond.selects "RedoQuorum" ⟨"RedoQuorum", "write", "(III)I"⟩ ⟨"RedoQuorum", "write", "(III)I"⟩ ∈ lw_tbl := tk_2 _ (List.mem_of_getElem? (i := 9) rfl)
theorem wd_250 : Cond.code ⟨"RedoQuorum", "write", "(III)I"⟩ prog_1_method_4_code 5 (some .int) ∈ lw_tbl := tk_2 _ (List.mem_of_getElem? (i := 10) rfl)
theorem wd_251 : Cond.methodLink "RedoQuorum" 85 ⟨"RedoQuorum", "refusalOfChanges", "(III)I"⟩ ∈ lw_tbl := tk_2 _ (List.mem_of_getElem? (i := 11) rfl)
theorem wd_253 : Cond.instanceMethod ⟨"RedoQuorum", "refusalOfChanges", "(III)I"⟩ ∈ lw_tbl := tk_2 _ (List.mem_of_getElem? (i := 13) rfl)
theorem wd_254 : Cond.code ⟨"RedoQuorum", "refusalOfChanges", "(III)I"⟩ prog_1_method_28_code 5 (some .int) ∈ lw_tbl := tk_2 _ (List.mem_of_getElem? (i := 14) rfl)
theorem wd_255 : Cond.methodLink "RedoQuorum" 88 ⟨"RedoQuorum$Log", "addChange", "(IIIZ)I"⟩ ∈ lw_tbl := tk_2 _ (List.mem_of_getElem? (i := 15) rfl)
theorem wd_256 : Cond.instanceMethod ⟨"RedoQuorum$Log", "addChange", "(IIIZ)I"⟩ ∈ lw_tbl := tk_2 _ (List.mem_of_getElem? (i := 16) rfl)
theorem wd_257 : Cond.selects "RedoQuorum$Log" ⟨"RedoQuorum$Log", "addChange", "(IIIZ)I"⟩ ⟨"RedoQuorum$Log", "addChange", "(IIIZ)I"⟩ ∈ lw_tbl := tk_2 _ (List.mem_of_getElem? (i := 17) rfl)
theorem wd_258 : Cond.code ⟨"RedoQuorum$Log", "addChange", "(IIIZ)I"⟩ prog_4_method_3_code 5 (some .int) ∈ lw_tbl := tk_2 _ (List.mem_of_getElem? (i := 18) rfl)
theorem wd_259 : Cond.methodLinkNest "RedoQuorum$Log" 38 ⟨"RedoQuorum", "groupOfPage", "(I)I"⟩ "RedoQuorum" ∈ lw_tbl := tk_2 _ (List.mem_of_getElem? (i := 19) rfl)
theorem wd_260 : Cond.methodLink "RedoQuorum$Log" 41 ⟨"RedoQuorum$Log", "add", "(IIIII)I"⟩ ∈ lw_tbl := tk_2 _ (List.mem_of_getElem? (i := 20) rfl)
theorem wd_262 : Cond.instanceMethod ⟨"RedoQuorum$Log", "add", "(IIIII)I"⟩ ∈ lw_tbl := tk_2 _ (List.mem_of_getElem? (i := 22) rfl)
theorem wd_263 : Cond.code ⟨"RedoQuorum$Log", "add", "(IIIII)I"⟩ prog_4_method_5_code 6 (some .int) ∈ lw_tbl := tk_2 _ (List.mem_of_getElem? (i := 23) rfl)
theorem wd_264 : Cond.methodLink "RedoQuorumLaw" 28 ⟨"RedoQuorum", "shift", "(IIII)I"⟩ ∈ lw_tbl := tk_2 _ (List.mem_of_getElem? (i := 24) rfl)
theorem wd_265 : Cond.instanceMethod ⟨"RedoQuorum", "shift", "(IIII)I"⟩ ∈ lw_tbl := tk_2 _ (List.mem_of_getElem? (i := 25) rfl)
theorem wd_266 : Cond.selects "RedoQuorum" ⟨"RedoQuorum", "shift", "(IIII)I"⟩ ⟨"RedoQuorum", "shift", "(IIII)I"⟩ ∈ lw_tbl := tk_2 _ (List.mem_of_getElem? (i := 26) rfl)
theorem wd_267 : Cond.code ⟨"RedoQuorum", "shift", "(IIII)I"⟩ prog_1_method_5_code 8 (some .int) ∈ lw_tbl := tk_2 _ (List.mem_of_getElem? (i := 27) rfl)
theorem wd_268 : Cond.methodLink "RedoQuorumLaw" 33 ⟨"RedoQuorum", "commit", "(I)I"⟩ ∈ lw_tbl := tk_2 _ (List.mem_of_getElem? (i := 28) rfl)
theorem wd_269 : Cond.instanceMethod ⟨"RedoQuorum", "commit", "(I)I"⟩ ∈ lw_tbl := tk_2 _ (List.mem_of_getElem? (i := 29) rfl)
theorem wd_270 : Cond.selects "RedoQuorum" ⟨"RedoQuorum", "commit", "(I)I"⟩ ⟨"RedoQuorum", "commit", "(I)I"⟩ ∈ lw_tbl := tk_2 _ (List.mem_of_getElem? (i := 30) rfl)
theorem wd_271 : Cond.code ⟨"RedoQuorum", "commit", "(I)I"⟩ prog_1_method_6_code 3 (some .int) ∈ lw_tbl := tk_2 _ (List.mem_of_getElem? (i := 31) rfl)
theorem wd_272 : Cond.methodLink "RedoQuorum" 95 ⟨"RedoQuorum$Transactions", "finish", "(I)V"⟩ ∈ lw_tbl := tk_2 _ (List.mem_of_getElem? (i := 32) rfl)
theorem wd_273 : Cond.instanceMethod ⟨"RedoQuorum$Transactions", "finish", "(I)V"⟩ ∈ lw_tbl := tk_2 _ (List.mem_of_getElem? (i := 33) rfl)
theorem wd_274 : Cond.selects "RedoQuorum$Transactions" ⟨"RedoQuorum$Transactions", "finish", "(I)V"⟩ ⟨"RedoQuorum$Transactions", "finish", "(I)V"⟩ ∈ lw_tbl := tk_2 _ (List.mem_of_getElem? (i := 34) rfl)
theorem wd_275 : Cond.code ⟨"RedoQuorum$Transactions", "finish", "(I)V"⟩ prog_6_method_7_code 3 (none : Option Jvm.ClassFile.FieldType) ∈ lw_tbl := tk_2 _ (List.mem_of_getElem? (i := 35) rfl)
theorem wd_276 : Cond.methodLink "RedoQuorum" 98 ⟨"RedoQuorum$Log", "addEnd", "(IZ)I"⟩ ∈ lw_tbl := tk_2 _ (List.mem_of_getElem? (i := 36) rfl)
theorem wd_277 : Cond.instanceMethod ⟨"RedoQuorum$Log", "addEnd", "(IZ)I"⟩ ∈ lw_tbl := tk_2 _ (List.mem_of_getElem? (i := 37) rfl)
theorem wd_278 : Cond.selects "RedoQuorum$Log" ⟨"RedoQuorum$Log", "addEnd", "(IZ)I"⟩ ⟨"RedoQuorum$Log", "addEnd", "(IZ)I"⟩ ∈ lw_tbl := tk_2 _ (List.mem_of_getElem? (i := 38) rfl)
theorem wd_279 : Cond.code ⟨"RedoQuorum$Log", "addEnd", "(IZ)I"⟩ prog_4_method_4_code 4 (some .int) ∈ lw_tbl := tk_2 _ (List.mem_of_getElem? (i := 39) rfl)
theorem wd_280 : Cond.methodLink "RedoQuorum$Log" 45 ⟨"java/lang/Math", "max", "(II)I"⟩ ∈ lw_tbl := tk_2 _ (List.mem_of_getElem? (i := 40) rfl)
theorem wd_281 : Cond.static ⟨"java/lang/Math", "max", "(II)I"⟩ ∈ lw_tbl := tk_2 _ (List.mem_of_getElem? (i := 41) rfl)
theorem wd_282 : Cond.code ⟨"java/lang/Math", "max", "(II)I"⟩ prog_9_method_65_code 2 (some .int) ∈ lw_tbl := tk_2 _ (List.mem_of_getElem? (i := 42) rfl)
theorem wd_283 : Cond.methodLink "RedoQuorumLaw" 38 ⟨"RedoQuorum", "abort", "(I)I"⟩ ∈ lw_tbl := tk_2 _ (List.mem_of_getElem? (i := 43) rfl)
theorem wd_284 : Cond.instanceMethod ⟨"RedoQuorum", "abort", "(I)I"⟩ ∈ lw_tbl := tk_2 _ (List.mem_of_getElem? (i := 44) rfl)
theorem wd_285 : Cond.selects "RedoQuorum" ⟨"RedoQuorum", "abort", "(I)I"⟩ ⟨"RedoQuorum", "abort", "(I)I"⟩ ∈ lw_tbl := tk_2 _ (List.mem_of_getElem? (i := 45) rfl)
theorem wd_286 : Cond.code ⟨"RedoQuorum", "abort", "(I)I"⟩ prog_1_method_7_code 3 (some .int) ∈ lw_tbl := tk_2 _ (List.mem_of_getElem? (i := 46) rfl)
theorem wd_287 : Cond.methodLink "RedoQuorum" 102 ⟨"RedoQuorum$Log", "rollBack", "(I)I"⟩ ∈ lw_tbl := tk_2 _ (List.mem_of_getElem? (i := 47) rfl)
theorem wd_288 : Cond.instanceMethod ⟨"RedoQuorum$Log", "rollBack", "(I)I"⟩ ∈ lw_tbl := tk_2 _ (List.mem_of_getElem? (i := 48) rfl)
theorem wd_289 : Cond.selects "RedoQuorum$Log" ⟨"RedoQuorum$Log", "rollBack", "(I)I"⟩ ⟨"RedoQuorum$Log", "rollBack", "(I)I"⟩ ∈ lw_tbl := tk_2 _ (List.mem_of_getElem? (i := 49) rfl)
theorem wd_290 : Cond.code ⟨"RedoQuorum$Log", "rollBack", "(I)I"⟩ prog_4_method_6_code 4 (some .int) ∈ lw_tbl := tk_2 _ (List.mem_of_getElem? (i := 50) rfl)
theorem wd_291 : Cond.methodLink "RedoQuorum$Log" 51 ⟨"RedoQuorum$Log", "firstChange", "(II)I"⟩ ∈ lw_tbl := tk_2 _ (List.mem_of_getElem? (i := 51) rfl)
theorem wd_293 : Cond.instanceMethod ⟨"RedoQuorum$Log", "firstChange", "(II)I"⟩ ∈ lw_tbl := tk_2 _ (List.mem_of_getElem? (i := 53) rfl)
theorem wd_294 : Cond.code ⟨"RedoQuorum$Log", "firstChange", "(II)I"⟩ prog_4_method_16_code 4 (some .int) ∈ lw_tbl := tk_2 _ (List.mem_of_getElem? (i := 54) rfl)
theorem wd_295 : Cond.methodLink "RedoQuorum$Log" 54 ⟨"RedoQuorum$Log", "valueUpTo", "(II)I"⟩ ∈ lw_tbl := tk_2 _ (List.mem_of_getElem? (i := 55) rfl)
theorem wd_296 : Cond.methodLink "RedoQuorum$Log" 57 ⟨"RedoQuorum$Log", "addChange", "(IIIZ)I"⟩ ∈ lw_tbl := tk_2 _ (List.mem_of_getElem? (i := 56) rfl)
theorem wd_297 : Cond.methodLink "RedoQuorum$Log" 61 ⟨"RedoQuorum$Log", "addEnd", "(IZ)I"⟩ ∈ lw_tbl := tk_2 _ (List.mem_of_getElem? (i := 57) rfl)
theorem wd_298 : Cond.methodLink "RedoQuorumLaw" 42 ⟨"RedoQuorum", "status", "(I)I"⟩ ∈ lw_tbl := tk_2 _ (List.mem_of_getElem? (i := 58) rfl)
theorem wd_299 : Cond.instanceMethod ⟨"RedoQuorum", "status", "(I)I"⟩ ∈ lw_tbl := tk_2 _ (List.mem_of_getElem? (i := 59) rfl)
theorem wd_300 : Cond.selects "RedoQuorum" ⟨"RedoQuorum", "status", "(I)I"⟩ ⟨"RedoQuorum", "status", "(I)I"⟩ ∈ lw_tbl := tk_2 _ (List.mem_of_getElem? (i := 60) rfl)
theorem wd_301 : Cond.code ⟨"RedoQuorum", "status", "(I)I"⟩ prog_1_method_8_code 3 (some .int) ∈ lw_tbl := tk_2 _ (List.mem_of_getElem? (i := 61) rfl)
theorem wd_302 : Cond.methodLink "RedoQuorum" 114 ⟨"RedoQuorum$Log", "commits", "(I)Z"⟩ ∈ lw_tbl := tk_2 _ (List.mem_of_getElem? (i := 62) rfl)
theorem wd_303 : Cond.instanceMethod ⟨"RedoQuorum$Log", "commits", "(I)Z"⟩ ∈ lw_tbl := tk_2 _ (List.mem_of_getElem? (i := 63) rfl)
theorem wd_304 : Cond.selects "RedoQuorum$Log" ⟨"RedoQuorum$Log", "commits", "(I)Z"⟩ ⟨"RedoQuorum$Log", "commits", "(I)Z"⟩ ∈ lw_tbl := tk_2 _ (List.mem_of_getElem? (i := 64) rfl)
theorem wd_305 : Cond.code ⟨"RedoQuorum$Log", "commits", "(I)Z"⟩ prog_4_method_9_code 2 (some .boolean) ∈ lw_tbl := tk_2 _ (List.mem_of_getElem? (i := 65) rfl)
theorem wd_306 : Cond.methodLink "RedoQuorumLaw" 46 ⟨"RedoQuorum", "deliver", "(II)I"⟩ ∈ lw_tbl := tk_2 _ (List.mem_of_getElem? (i := 66) rfl)
theorem wd_307 : Cond.instanceMethod ⟨"RedoQuorum", "deliver", "(II)I"⟩ ∈ lw_tbl := tk_2 _ (List.mem_of_getElem? (i := 67) rfl)
theorem wd_308 : Cond.selects "RedoQuorum" ⟨"RedoQuorum", "deliver", "(II)I"⟩ ⟨"RedoQuorum", "deliver", "(II)I"⟩ ∈ lw_tbl := tk_2 _ (List.mem_of_getElem? (i := 68) rfl)
theorem wd_309 : Cond.code ⟨"RedoQuorum", "deliver", "(II)I"⟩ prog_1_method_9_code 5 (some .int) ∈ lw_tbl := tk_2 _ (List.mem_of_getElem? (i := 69) rfl)
theorem wd_310 : Cond.methodLink "RedoQuorum" 117 ⟨"RedoQuorum$Log", "has", "(I)Z"⟩ ∈ lw_tbl := tk_2 _ (List.mem_of_getElem? (i := 70) rfl)
theorem wd_311 : Cond.instanceMethod ⟨"RedoQuorum$Log", "has", "(I)Z"⟩ ∈ lw_tbl := tk_2 _ (List.mem_of_getElem? (i := 71) rfl)
theorem wd_312 : Cond.selects "RedoQuorum$Log" ⟨"RedoQuorum$Log", "has", "(I)Z"⟩ ⟨"RedoQuorum$Log", "has", "(I)Z"⟩ ∈ lw_tbl := tk_2 _ (List.mem_of_getElem? (i := 72) rfl)
theorem wd_313 : Cond.code ⟨"RedoQuorum$Log", "has", "(I)Z"⟩ prog_4_method_2_code 2 (some .boolean) ∈ lw_tbl := tk_2 _ (List.mem_of_getElem? (i := 73) rfl)
theorem wd_314 : Cond.methodLink "RedoQuorum" 127 ⟨"RedoQuorum$StorageCopy", "isLive", "()Z"⟩ ∈ lw_tbl := tk_2 _ (List.mem_of_getElem? (i := 74) rfl)
theorem wd_315 : Cond.methodLink "RedoQuorum" 132 ⟨"RedoQuorum$StorageCopy", "take", "(I)Z"⟩ ∈ lw_tbl := tk_2 _ (List.mem_of_getElem? (i := 75) rfl)
theorem wd_316 : Cond.instanceMethod ⟨"RedoQuorum$StorageCopy", "take", "(I)Z"⟩ ∈ lw_tbl := tk_2 _ (List.mem_of_getElem? (i := 76) rfl)
theorem wd_317 : Cond.selects "RedoQuorum$StorageCopy" ⟨"RedoQuorum$StorageCopy", "take", "(I)Z"⟩ ⟨"RedoQuorum$StorageCopy", "take", "(I)Z"⟩ ∈ lw_tbl := tk_2 _ (List.mem_of_getElem? (i := 77) rfl)
theorem wd_318 : Cond.code ⟨"RedoQuorum$StorageCopy", "take", "(I)Z"⟩ prog_5_method_5_code 3 (some .boolean) ∈ lw_tbl := tk_2 _ (List.mem_of_getElem? (i := 78) rfl)
theorem wd_319 : Cond.methodLink "RedoQuorum" 135 ⟨"RedoQuorum$StorageCopy", "tellReach", "(LRedoQuorum$Log;)V"⟩ ∈ lw_tbl := tk_2 _ (List.mem_of_getElem? (i := 79) rfl)
theorem wd_320 : Cond.instanceMethod ⟨"RedoQuorum$StorageCopy", "tellReach", "(LRedoQuorum$Log;)V"⟩ ∈ lw_tbl := tk_2 _ (List.mem_of_getElem? (i := 80) rfl)
theorem wd_321 : Cond.selects "RedoQuorum$StorageCopy" ⟨"RedoQuorum$StorageCopy", "tellReach", "(LRedoQuorum$Log;)V"⟩ ⟨"RedoQuorum$StorageCopy", "tellReach", "(LRedoQuorum$Log;)V"⟩ ∈ lw_tbl := tk_2 _ (List.mem_of_getElem? (i := 81) rfl)
theorem wd_322 : Cond.code ⟨"RedoQuorum$StorageCopy", "tellReach", "(LRedoQuorum$Log;)V"⟩ prog_5_method_9_code 2 (none : Option Jvm.ClassFile.FieldType) ∈ lw_tbl := tk_2 _ (List.mem_of_getElem? (i := 82) rfl)
theorem wd_323 : Cond.methodLink "RedoQuorum$StorageCopy" 48 ⟨"RedoQuorum$StorageCopy", "reach", "(LRedoQuorum$Log;)I"⟩ ∈ lw_tbl := tk_2 _ (List.mem_of_getElem? (i := 83) rfl)
theorem wd_324 : Cond.instanceMethod ⟨"RedoQuorum$StorageCopy", "reach", "(LRedoQuorum$Log;)I"⟩ ∈ lw_tbl := tk_2 _ (List.mem_of_getElem? (i := 84) rfl)
theorem wd_325 : Cond.selects "RedoQuorum$StorageCopy" ⟨"RedoQuorum$StorageCopy", "reach", "(LRedoQuorum$Log;)I"⟩ ⟨"RedoQuorum$StorageCopy", "reach", "(LRedoQuorum$Log;)I"⟩ ∈ lw_tbl := tk_2 _ (List.mem_of_getElem? (i := 85) rfl)
theorem wd_326 : Cond.code ⟨"RedoQuorum$StorageCopy", "reach", "(LRedoQuorum$Log;)I"⟩ prog_5_method_8_code 4 (some .int) ∈ lw_tbl := tk_2 _ (List.mem_of_getElem? (i := 86) rfl)
theorem wd_327 : Cond.methodLink "RedoQuorum" 139 ⟨"RedoQuorum", "raiseDurable", "()V"⟩ ∈ lw_tbl := tk_2 _ (List.mem_of_getElem? (i := 87) rfl)
theorem wd_329 : Cond.instanceMethod ⟨"RedoQuorum", "raiseDurable", "()V"⟩ ∈ lw_tbl := tk_2 _ (List.mem_of_getElem? (i := 89) rfl)
theorem wd_330 : Cond.code ⟨"RedoQuorum", "raiseDurable", "()V"⟩ prog_1_method_34_code 1 (none : Option Jvm.ClassFile.FieldType) ∈ lw_tbl := tk_2 _ (List.mem_of_getElem? (i := 90) rfl)
theorem wd_331 : Cond.methodLink "RedoQuorum" 196 ⟨"RedoQuorum", "completePoint", "()I"⟩ ∈ lw_tbl := tk_2 _ (List.mem_of_getElem? (i := 91) rfl)
theorem wd_333 : Cond.instanceMethod ⟨"RedoQuorum", "completePoint", "()I"⟩ ∈ lw_tbl := tk_2 _ (List.mem_of_getElem? (i := 93) rfl)
theorem wd_334 : Cond.code ⟨"RedoQuorum", "completePoint", "()I"⟩ prog_1_method_33_code 5 (some .int) ∈ lw_tbl := tk_2 _ (List.mem_of_getElem? (i := 94) rfl)
theorem wd_335 : Cond.methodLink "RedoQuorum" 261 ⟨"RedoQuorum$Group", "quorumPoint", "()I"⟩ ∈ lw_tbl := tk_2 _ (List.mem_of_getElem? (i := 95) rfl)
theorem wd_336 : Cond.instanceMethod ⟨"RedoQuorum$Group", "quorumPoint", "()I"⟩ ∈ lw_tbl := tk_2 _ (List.mem_of_getElem? (i := 96) rfl)
theorem wd_337 : Cond.selects "RedoQuorum$Group" ⟨"RedoQuorum$Group", "quorumPoint", "()I"⟩ ⟨"RedoQuorum$Group", "quorumPoint", "()I"⟩ ∈ lw_tbl := tk_2 _ (List.mem_of_getElem? (i := 97) rfl)
theorem wd_338 : Cond.code ⟨"RedoQuorum$Group", "quorumPoint", "()I"⟩ prog_3_method_5_code 4 (some .int) ∈ lw_tbl := tk_2 _ (List.mem_of_getElem? (i := 98) rfl)
theorem wd_339 : Cond.methodLink "RedoQuorum$Group" 36 ⟨"RedoQuorum$Group", "copiesThatReported", "(I)I"⟩ ∈ lw_tbl := tk_2 _ (List.mem_of_getElem? (i := 99) rfl)
theorem wd_341 : Cond.instanceMethod ⟨"RedoQuorum$Group", "copiesThatReported", "(I)I"⟩ ∈ lw_tbl := tk_2 _ (List.mem_of_getElem? (i := 101) rfl)
theorem wd_342 : Cond.code ⟨"RedoQuorum$Group", "copiesThatReported", "(I)I"⟩ prog_3_method_6_code 4 (some .int) ∈ lw_tbl := tk_2 _ (List.mem_of_getElem? (i := 102) rfl)
theorem wd_343 : Cond.methodLink "RedoQuorum" 178 ⟨"RedoQuorum$Log", "lastCloseUpTo", "(I)I"⟩ ∈ lw_tbl := tk_2 _ (List.mem_of_getElem? (i := 103) rfl)
theorem wd_344 : Cond.instanceMethod ⟨"RedoQuorum$Log", "lastCloseUpTo", "(I)I"⟩ ∈ lw_tbl := tk_2 _ (List.mem_of_getElem? (i := 104) rfl)
theorem wd_345 : Cond.selects "RedoQuorum$Log" ⟨"RedoQuorum$Log", "lastCloseUpTo", "(I)I"⟩ ⟨"RedoQuorum$Log", "lastCloseUpTo", "(I)I"⟩ ∈ lw_tbl := tk_2 _ (List.mem_of_getElem? (i := 105) rfl)
theorem wd_346 : Cond.code ⟨"RedoQuorum$Log", "lastCloseUpTo", "(I)I"⟩ prog_4_method_10_code 3 (some .int) ∈ lw_tbl := tk_2 _ (List.mem_of_getElem? (i := 106) rfl)
theorem wd_347 : Cond.methodLink "RedoQuorum" 264 ⟨"java/lang/Math", "max", "(II)I"⟩ ∈ lw_tbl := tk_2 _ (List.mem_of_getElem? (i := 107) rfl)
theorem wd_348 : Cond.methodLink "RedoQuorumLaw" 50 ⟨"RedoQuorum", "gossip", "(III)I"⟩ ∈ lw_tbl := tk_2 _ (List.mem_of_getElem? (i := 108) rfl)
theorem wd_349 : Cond.instanceMethod ⟨"RedoQuorum", "gossip", "(III)I"⟩ ∈ lw_tbl := tk_2 _ (List.mem_of_getElem? (i := 109) rfl)
theorem wd_350 : Cond.selects "RedoQuorum" ⟨"RedoQuorum", "gossip", "(III)I"⟩ ⟨"RedoQuorum", "gossip", "(III)I"⟩ ∈ lw_tbl := tk_2 _ (List.mem_of_getElem? (i := 110) rfl)
theorem wd_351 : Cond.code ⟨"RedoQuorum", "gossip", "(III)I"⟩ prog_1_method_10_code 6 (some .int) ∈ lw_tbl := tk_2 _ (List.mem_of_getElem? (i := 111) rfl)
theorem wd_352 : Cond.methodLink "RedoQuorum" 142 ⟨"RedoQuorum", "isCopy", "(II)Z"⟩ ∈ lw_tbl := tk_2 _ (List.mem_of_getElem? (i := 112) rfl)
theorem wd_353 : Cond.static ⟨"RedoQuorum", "isCopy", "(II)Z"⟩ ∈ lw_tbl := tk_2 _ (List.mem_of_getElem? (i := 113) rfl)
theorem wd_354 : Cond.code ⟨"RedoQuorum", "isCopy", "(II)Z"⟩ prog_1_method_22_code 2 (some .boolean) ∈ lw_tbl := tk_2 _ (List.mem_of_getElem? (i := 114) rfl)
theorem wd_355 : Cond.methodLink "RedoQuorum" 146 ⟨"RedoQuorum$StorageCopy", "takeAllOf", "(LRedoQuorum$StorageCopy;)I"⟩ ∈ lw_tbl := tk_2 _ (List.mem_of_getElem? (i := 115) rfl)
theorem wd_356 : Cond.instanceMethod ⟨"RedoQuorum$StorageCopy", "takeAllOf", "(LRedoQuorum$StorageCopy;)I"⟩ ∈ lw_tbl := tk_2 _ (List.mem_of_getElem? (i := 116) rfl)
theorem wd_357 : Cond.selects "RedoQuorum$StorageCopy" ⟨"RedoQuorum$StorageCopy", "takeAllOf", "(LRedoQuorum$StorageCopy;)I"⟩ ⟨"RedoQuorum$StorageCopy", "takeAllOf", "(LRedoQuorum$StorageCopy;)I"⟩ ∈ lw_tbl := tk_2 _ (List.mem_of_getElem? (i := 117) rfl)
theorem wd_358 : Cond.code ⟨"RedoQuorum$StorageCopy", "takeAllOf", "(LRedoQuorum$StorageCopy;)I"⟩ prog_5_method_6_code 4 (some .int) ∈ lw_tbl := tk_2 _ (List.mem_of_getElem? (i := 118) rfl)
theorem wd_359 : Cond.methodLink "RedoQuorum$StorageCopy" 32 ⟨"RedoQuorum$StorageCopy", "take", "(I)Z"⟩ ∈ lw_tbl := tk_2 _ (List.mem_of_getElem? (i := 119) rfl)
theorem wd_360 : Cond.methodLink "RedoQuorum$StorageCopy" 36 ⟨"java/lang/Math", "max", "(II)I"⟩ ∈ lw_tbl := tk_2 _ (List.mem_of_getElem? (i := 120) rfl)
theorem wd_361 : Cond.methodLink "RedoQuorumLaw" 54 ⟨"RedoQuorum", "report", "(II)I"⟩ ∈ lw_tbl := tk_2 _ (List.mem_of_getElem? (i := 121) rfl)
theorem wd_362 : Cond.instanceMethod ⟨"RedoQuorum", "report", "(II)I"⟩ ∈ lw_tbl := tk_2 _ (List.mem_of_getElem? (i := 122) rfl)
theorem wd_363 : Cond.selects "RedoQuorum" ⟨"RedoQuorum", "report", "(II)I"⟩ ⟨"RedoQuorum", "report", "(II)I"⟩ ∈ lw_tbl := tk_2 _ (List.mem_of_getElem? (i := 123) rfl)
theorem wd_364 : Cond.code ⟨"RedoQuorum", "report", "(II)I"⟩ prog_1_method_11_code 5 (some .int) ∈ lw_tbl := tk_2 _ (List.mem_of_getElem? (i := 124) rfl)
theorem wd_365 : Cond.methodLink "RedoQuorum" 150 ⟨"RedoQuorum", "refusalOfCopy", "(II)I"⟩ ∈ lw_tbl := tk_2 _ (List.mem_of_getElem? (i := 125) rfl)
theorem wd_367 : Cond.instanceMethod ⟨"RedoQuorum", "refusalOfCopy", "(II)I"⟩ ∈ lw_tbl := tk_2 _ (List.mem_of_getElem? (i := 127) rfl)
theorem wd_368 : Cond.code ⟨"RedoQuorum", "refusalOfCopy", "(II)I"⟩ prog_1_method_29_code 3 (some .int) ∈ lw_tbl := tk_2 _ (List.mem_of_getElem? (i := 128) rfl)
theorem wd_369 : Cond.methodLink "RedoQuorumLaw" 58 ⟨"RedoQuorum", "fault", "(III)Z"⟩ ∈ lw_tbl := tk_2 _ (List.mem_of_getElem? (i := 129) rfl)
theorem wd_370 : Cond.instanceMethod ⟨"RedoQuorum", "fault", "(III)Z"⟩ ∈ lw_tbl := tk_2 _ (List.mem_of_getElem? (i := 130) rfl)
theorem wd_371 : Cond.selects "RedoQuorum" ⟨"RedoQuorum", "fault", "(III)Z"⟩ ⟨"RedoQuorum", "fault", "(III)Z"⟩ ∈ lw_tbl := tk_2 _ (List.mem_of_getElem? (i := 131) rfl)
theorem wd_372 : Cond.code ⟨"RedoQuorum", "fault", "(III)Z"⟩ prog_1_method_12_code 5 (some .boolean) ∈ lw_tbl := tk_2 _ (List.mem_of_getElem? (i := 132) rfl)
theorem wd_373 : Cond.methodLink "RedoQuorum" 156 ⟨"RedoQuorum$StorageCopy", "change", "(II)Z"⟩ ∈ lw_tbl := tk_2 _ (List.mem_of_getElem? (i := 133) rfl)
theorem wd_374 : Cond.instanceMethod ⟨"RedoQuorum$StorageCopy", "change", "(II)Z"⟩ ∈ lw_tbl := tk_2 _ (List.mem_of_getElem? (i := 134) rfl)
theorem wd_375 : Cond.selects "RedoQuorum$StorageCopy" ⟨"RedoQuorum$StorageCopy", "change", "(II)Z"⟩ ⟨"RedoQuorum$StorageCopy", "change", "(II)Z"⟩ ∈ lw_tbl := tk_2 _ (List.mem_of_getElem? (i := 135) rfl)
theorem wd_376 : Cond.code ⟨"RedoQuorum$StorageCopy", "change", "(II)Z"⟩ prog_5_method_3_code 3 (some .boolean) ∈ lw_tbl := tk_2 _ (List.mem_of_getElem? (i := 136) rfl)
theorem wd_377 : Cond.methodLink "RedoQuorum" 159 ⟨"RedoQuorum$StorageCopy", "lose", "()Z"⟩ ∈ lw_tbl := tk_2 _ (List.mem_of_getElem? (i := 137) rfl)
theorem wd_378 : Cond.instanceMethod ⟨"RedoQuorum$StorageCopy", "lose", "()Z"⟩ ∈ lw_tbl := tk_2 _ (List.mem_of_getElem? (i := 138) rfl)
theorem wd_379 : Cond.selects "RedoQuorum$StorageCopy" ⟨"RedoQuorum$StorageCopy", "lose", "()Z"⟩ ⟨"RedoQuorum$StorageCopy", "lose", "()Z"⟩ ∈ lw_tbl := tk_2 _ (List.mem_of_getElem? (i := 139) rfl)
theorem wd_380 : Cond.code ⟨"RedoQuorum$StorageCopy", "lose", "()Z"⟩ prog_5_method_4_code 1 (some .boolean) ∈ lw_tbl := tk_2 _ (List.mem_of_getElem? (i := 140) rfl)
theorem wd_381 : Cond.methodLink "RedoQuorum$StorageCopy" 28 ⟨"RedoQuorum$StorageCopy", "dropAfter", "(I)V"⟩ ∈ lw_tbl := tk_2 _ (List.mem_of_getElem? (i := 141) rfl)
theorem wd_382 : Cond.instanceMethod ⟨"RedoQuorum$StorageCopy", "dropAfter", "(I)V"⟩ ∈ lw_tbl := tk_2 _ (List.mem_of_getElem? (i := 142) rfl)
theorem wd_383 : Cond.selects "RedoQuorum$StorageCopy" ⟨"RedoQuorum$StorageCopy", "dropAfter", "(I)V"⟩ ⟨"RedoQuorum$StorageCopy", "dropAfter", "(I)V"⟩ ∈ lw_tbl := tk_2 _ (List.mem_of_getElem? (i := 143) rfl)
theorem wd_384 : Cond.code ⟨"RedoQuorum$StorageCopy", "dropAfter", "(I)V"⟩ prog_5_method_7_code 3 (none : Option Jvm.ClassFile.FieldType) ∈ lw_tbl := tk_2 _ (List.mem_of_getElem? (i := 144) rfl)
theorem wd_385 : Cond.methodLink "RedoQuorum" 162 ⟨"RedoQuorum$Group", "repair", "(LRedoQuorum$StorageCopy;)Z"⟩ ∈ lw_tbl := tk_2 _ (List.mem_of_getElem? (i := 145) rfl)
theorem wd_386 : Cond.instanceMethod ⟨"RedoQuorum$Group", "repair", "(LRedoQuorum$StorageCopy;)Z"⟩ ∈ lw_tbl := tk_2 _ (List.mem_of_getElem? (i := 146) rfl)
theorem wd_387 : Cond.selects "RedoQuorum$Group" ⟨"RedoQuorum$Group", "repair", "(LRedoQuorum$StorageCopy;)Z"⟩ ⟨"RedoQuorum$Group", "repair", "(LRedoQuorum$StorageCopy;)Z"⟩ ∈ lw_tbl := tk_2 _ (List.mem_of_getElem? (i := 147) rfl)
theorem wd_388 : Cond.code ⟨"RedoQuorum$Group", "repair", "(LRedoQuorum$StorageCopy;)Z"⟩ prog_3_method_7_code 3 (some .boolean) ∈ lw_tbl := tk_2 _ (List.mem_of_getElem? (i := 148) rfl)
theorem wd_389 : Cond.methodLink "RedoQuorum$Group" 43 ⟨"RedoQuorum$Group", "liveCopies", "()I"⟩ ∈ lw_tbl := tk_2 _ (List.mem_of_getElem? (i := 149) rfl)
theorem wd_390 : Cond.instanceMethod ⟨"RedoQuorum$Group", "liveCopies", "()I"⟩ ∈ lw_tbl := tk_2 _ (List.mem_of_getElem? (i := 150) rfl)
theorem wd_391 : Cond.selects "RedoQuorum$Group" ⟨"RedoQuorum$Group", "liveCopies", "()I"⟩ ⟨"RedoQuorum$Group", "liveCopies", "()I"⟩ ∈ lw_tbl := tk_2 _ (List.mem_of_getElem? (i := 151) rfl)
theorem wd_392 : Cond.code ⟨"RedoQuorum$Group", "liveCopies", "()I"⟩ prog_3_method_2_code 3 (some .int) ∈ lw_tbl := tk_2 _ (List.mem_of_getElem? (i := 152) rfl)
theorem wd_393 : Cond.methodLink "RedoQuorum$Group" 47 ⟨"RedoQuorum$StorageCopy", "takeAllOf", "(LRedoQuorum$StorageCopy;)I"⟩ ∈ lw_tbl := tk_2 _ (List.mem_of_getElem? (i := 153) rfl)
theorem wd_394 : Cond.methodLink "RedoQuorumLaw" 63 ⟨"RedoQuorum", "crash", "()Z"⟩ ∈ lw_tbl := tk_2 _ (List.mem_of_getElem? (i := 154) rfl)
theorem wd_395 : Cond.instanceMethod ⟨"RedoQuorum", "crash", "()Z"⟩ ∈ lw_tbl := tk_2 _ (List.mem_of_getElem? (i := 155) rfl)
theorem wd_396 : Cond.selects "RedoQuorum" ⟨"RedoQuorum", "crash", "()Z"⟩ ⟨"RedoQuorum", "crash", "()Z"⟩ ∈ lw_tbl := tk_2 _ (List.mem_of_getElem? (i := 156) rfl)
theorem wd_397 : Cond.code ⟨"RedoQuorum", "crash", "()Z"⟩ prog_1_method_13_code 2 (some .boolean) ∈ lw_tbl := tk_2 _ (List.mem_of_getElem? (i := 157) rfl)
theorem wd_398 : Cond.methodLink "RedoQuorum" 166 ⟨"RedoQuorum$Cache", "clear", "()V"⟩ ∈ lw_tbl := tk_2 _ (List.mem_of_getElem? (i := 158) rfl)
theorem wd_399 : Cond.instanceMethod ⟨"RedoQuorum$Cache", "clear", "()V"⟩ ∈ lw_tbl := tk_2 _ (List.mem_of_getElem? (i := 159) rfl)
theorem wd_400 : Cond.selects "RedoQuorum$Cache" ⟨"RedoQuorum$Cache", "clear", "()V"⟩ ⟨"RedoQuorum$Cache", "clear", "()V"⟩ ∈ lw_tbl := tk_2 _ (List.mem_of_getElem? (i := 160) rfl)
theorem wd_401 : Cond.code ⟨"RedoQuorum$Cache", "clear", "()V"⟩ prog_2_method_6_code 1 (none : Option Jvm.ClassFile.FieldType) ∈ lw_tbl := tk_2 _ (List.mem_of_getElem? (i := 161) rfl)
theorem wd_402 : Cond.methodLink "RedoQuorum" 169 ⟨"RedoQuorum$Group", "forgetReports", "()V"⟩ ∈ lw_tbl := tk_2 _ (List.mem_of_getElem? (i := 162) rfl)
theorem wd_403 : Cond.instanceMethod ⟨"RedoQuorum$Group", "forgetReports", "()V"⟩ ∈ lw_tbl := tk_2 _ (List.mem_of_getElem? (i := 163) rfl)
theorem wd_404 : Cond.selects "RedoQuorum$Group" ⟨"RedoQuorum$Group", "forgetReports", "()V"⟩ ⟨"RedoQuorum$Group", "forgetReports", "()V"⟩ ∈ lw_tbl := tk_2 _ (List.mem_of_getElem? (i := 164) rfl)
theorem wd_405 : Cond.code ⟨"RedoQuorum$Group", "forgetReports", "()V"⟩ prog_3_method_9_code 2 (none : Option Jvm.ClassFile.FieldType) ∈ lw_tbl := tk_2 _ (List.mem_of_getElem? (i := 165) rfl)
theorem wd_406 : Cond.methodLink "RedoQuorumLaw" 68 ⟨"RedoQuorum", "recover", "()I"⟩ ∈ lw_tbl := tk_2 _ (List.mem_of_getElem? (i := 166) rfl)
theorem wd_407 : Cond.instanceMethod ⟨"RedoQuorum", "recover", "()I"⟩ ∈ lw_tbl := tk_2 _ (List.mem_of_getElem? (i := 167) rfl)
theorem wd_408 : Cond.selects "RedoQuorum" ⟨"RedoQuorum", "recover", "()I"⟩ ⟨"RedoQuorum", "recover", "()I"⟩ ∈ lw_tbl := tk_2 _ (List.mem_of_getElem? (i := 168) rfl)
theorem wd_409 : Cond.code ⟨"RedoQuorum", "recover", "()I"⟩ prog_1_method_14_code 3 (some .int) ∈ lw_tbl := tk_2 _ (List.mem_of_getElem? (i := 169) rfl)
theorem wd_410 : Cond.methodLink "RedoQuorum" 172 ⟨"RedoQuorum$Group", "liveCopies", "()I"⟩ ∈ lw_tbl := tk_2 _ (List.mem_of_getElem? (i := 170) rfl)
theorem wd_411 : Cond.methodLink "RedoQuorum" 175 ⟨"RedoQuorum", "reachOfLiveCopies", "()I"⟩ ∈ lw_tbl := tk_2 _ (List.mem_of_getElem? (i := 171) rfl)
theorem wd_413 : Cond.instanceMethod ⟨"RedoQuorum", "reachOfLiveCopies", "()I"⟩ ∈ lw_tbl := tk_2 _ (List.mem_of_getElem? (i := 173) rfl)
theorem wd_414 : Cond.code ⟨"RedoQuorum", "reachOfLiveCopies", "()I"⟩ prog_1_method_35_code 3 (some .int) ∈ lw_tbl := tk_2 _ (List.mem_of_getElem? (i := 174) rfl)
theorem wd_415 : Cond.methodLink "RedoQuorum" 267 ⟨"RedoQuorum$Group", "liveCopyHolds", "(I)Z"⟩ ∈ lw_tbl := tk_2 _ (List.mem_of_getElem? (i := 175) rfl)
theorem wd_416 : Cond.instanceMethod ⟨"RedoQuorum$Group", "liveCopyHolds", "(I)Z"⟩ ∈ lw_tbl := tk_2 _ (List.mem_of_getElem? (i := 176) rfl)
theorem wd_417 : Cond.selects "RedoQuorum$Group" ⟨"RedoQuorum$Group", "liveCopyHolds", "(I)Z"⟩ ⟨"RedoQuorum$Group", "liveCopyHolds", "(I)Z"⟩ ∈ lw_tbl := tk_2 _ (List.mem_of_getElem? (i := 177) rfl)
theorem wd_418 : Cond.code ⟨"RedoQuorum$Group", "liveCopyHolds", "(I)Z"⟩ prog_3_method_3_code 3 (some .boolean) ∈ lw_tbl := tk_2 _ (List.mem_of_getElem? (i := 178) rfl)
theorem wd_419 : Cond.methodLink "RedoQuorum" 181 ⟨"RedoQuorum$Group", "dropAfter", "(I)V"⟩ ∈ lw_tbl := tk_2 _ (List.mem_of_getElem? (i := 179) rfl)
theorem wd_420 : Cond.instanceMethod ⟨"RedoQuorum$Group", "dropAfter", "(I)V"⟩ ∈ lw_tbl := tk_2 _ (List.mem_of_getElem? (i := 180) rfl)
theorem wd_421 : Cond.selects "RedoQuorum$Group" ⟨"RedoQuorum$Group", "dropAfter", "(I)V"⟩ ⟨"RedoQuorum$Group", "dropAfter", "(I)V"⟩ ∈ lw_tbl := tk_2 _ (List.mem_of_getElem? (i := 181) rfl)
theorem wd_422 : Cond.code ⟨"RedoQuorum$Group", "dropAfter", "(I)V"⟩ prog_3_method_8_code 3 (none : Option Jvm.ClassFile.FieldType) ∈ lw_tbl := tk_2 _ (List.mem_of_getElem? (i := 182) rfl)
theorem wd_423 : Cond.methodLink "RedoQuorum$Group" 51 ⟨"RedoQuorum$StorageCopy", "dropAfter", "(I)V"⟩ ∈ lw_tbl := tk_2 _ (List.mem_of_getElem? (i := 183) rfl)
theorem wd_424 : Cond.methodLink "RedoQuorum" 184 ⟨"RedoQuorum$Log", "cutAfter", "(I)V"⟩ ∈ lw_tbl := tk_2 _ (List.mem_of_getElem? (i := 184) rfl)
theorem wd_425 : Cond.instanceMethod ⟨"RedoQuorum$Log", "cutAfter", "(I)V"⟩ ∈ lw_tbl := tk_2 _ (List.mem_of_getElem? (i := 185) rfl)
theorem wd_426 : Cond.selects "RedoQuorum$Log" ⟨"RedoQuorum$Log", "cutAfter", "(I)V"⟩ ⟨"RedoQuorum$Log", "cutAfter", "(I)V"⟩ ∈ lw_tbl := tk_2 _ (List.mem_of_getElem? (i := 186) rfl)
theorem wd_427 : Cond.code ⟨"RedoQuorum$Log", "cutAfter", "(I)V"⟩ prog_4_method_7_code 3 (none : Option Jvm.ClassFile.FieldType) ∈ lw_tbl := tk_2 _ (List.mem_of_getElem? (i := 187) rfl)
theorem wd_428 : Cond.methodLink "RedoQuorum$Log" 65 ⟨"java/lang/Math", "min", "(II)I"⟩ ∈ lw_tbl := tk_2 _ (List.mem_of_getElem? (i := 188) rfl)
theorem wd_429 : Cond.static ⟨"java/lang/Math", "min", "(II)I"⟩ ∈ lw_tbl := tk_2 _ (List.mem_of_getElem? (i := 189) rfl)
theorem wd_430 : Cond.code ⟨"java/lang/Math", "min", "(II)I"⟩ prog_9_method_69_code 2 (some .int) ∈ lw_tbl := tk_2 _ (List.mem_of_getElem? (i := 190) rfl)
theorem wd_431 : Cond.methodLink "RedoQuorum" 187 ⟨"RedoQuorum$Group", "tellReaches", "(LRedoQuorum$Log;)V"⟩ ∈ lw_tbl := tk_2 _ (List.mem_of_getElem? (i := 191) rfl)
theorem wd_432 : Cond.instanceMethod ⟨"RedoQuorum$Group", "tellReaches", "(LRedoQuorum$Log;)V"⟩ ∈ lw_tbl := tk_2 _ (List.mem_of_getElem? (i := 192) rfl)
theorem wd_433 : Cond.selects "RedoQuorum$Group" ⟨"RedoQuorum$Group", "tellReaches", "(LRedoQuorum$Log;)V"⟩ ⟨"RedoQuorum$Group", "tellReaches", "(LRedoQuorum$Log;)V"⟩ ∈ lw_tbl := tk_2 _ (List.mem_of_getElem? (i := 193) rfl)
theorem wd_434 : Cond.code ⟨"RedoQuorum$Group", "tellReaches", "(LRedoQuorum$Log;)V"⟩ prog_3_method_10_code 3 (none : Option Jvm.ClassFile.FieldType) ∈ lw_tbl := tk_2 _ (List.mem_of_getElem? (i := 194) rfl)
theorem wd_435 : Cond.methodLink "RedoQuorum$Group" 54 ⟨"RedoQuorum$StorageCopy", "tellReach", "(LRedoQuorum$Log;)V"⟩ ∈ lw_tbl := tk_2 _ (List.mem_of_getElem? (i := 195) rfl)
theorem wd_436 : Cond.methodLink "RedoQuorum" 190 ⟨"RedoQuorum$Transactions", "finishAll", "()V"⟩ ∈ lw_tbl := tk_2 _ (List.mem_of_getElem? (i := 196) rfl)
theorem wd_437 : Cond.instanceMethod ⟨"RedoQuorum$Transactions", "finishAll", "()V"⟩ ∈ lw_tbl := tk_2 _ (List.mem_of_getElem? (i := 197) rfl)
theorem wd_438 : Cond.selects "RedoQuorum$Transactions" ⟨"RedoQuorum$Transactions", "finishAll", "()V"⟩ ⟨"RedoQuorum$Transactions", "finishAll", "()V"⟩ ∈ lw_tbl := tk_2 _ (List.mem_of_getElem? (i := 198) rfl)
theorem wd_439 : Cond.code ⟨"RedoQuorum$Transactions", "finishAll", "()V"⟩ prog_6_method_8_code 2 (none : Option Jvm.ClassFile.FieldType) ∈ lw_tbl := tk_2 _ (List.mem_of_getElem? (i := 199) rfl)
theorem wd_440 : Cond.methodLink "RedoQuorum$Transactions" 26 ⟨"RedoQuorum$Transactions", "finish", "(I)V"⟩ ∈ lw_tbl := tk_2 _ (List.mem_of_getElem? (i := 200) rfl)
theorem wd_441 : Cond.methodLink "RedoQuorum" 193 ⟨"RedoQuorum", "rollBackUnended", "()V"⟩ ∈ lw_tbl := tk_2 _ (List.mem_of_getElem? (i := 201) rfl)
theorem wd_443 : Cond.instanceMethod ⟨"RedoQuorum", "rollBackUnended", "()V"⟩ ∈ lw_tbl := tk_2 _ (List.mem_of_getElem? (i := 203) rfl)
theorem wd_444 : Cond.code ⟨"RedoQuorum", "rollBackUnended", "()V"⟩ prog_1_method_36_code 2 (none : Option Jvm.ClassFile.FieldType) ∈ lw_tbl := tk_2 _ (List.mem_of_getElem? (i := 204) rfl)
theorem wd_445 : Cond.methodLink "RedoQuorum" 270 ⟨"RedoQuorum$Log", "hasChangeOf", "(I)Z"⟩ ∈ lw_tbl := tk_2 _ (List.mem_of_getElem? (i := 205) rfl)
theorem wd_446 : Cond.instanceMethod ⟨"RedoQuorum$Log", "hasChangeOf", "(I)Z"⟩ ∈ lw_tbl := tk_2 _ (List.mem_of_getElem? (i := 206) rfl)
theorem wd_447 : Cond.selects "RedoQuorum$Log" ⟨"RedoQuorum$Log", "hasChangeOf", "(I)Z"⟩ ⟨"RedoQuorum$Log", "hasChangeOf", "(I)Z"⟩ ∈ lw_tbl := tk_2 _ (List.mem_of_getElem? (i := 207) rfl)
theorem wd_448 : Cond.code ⟨"RedoQuorum$Log", "hasChangeOf", "(I)Z"⟩ prog_4_method_15_code 3 (some .boolean) ∈ lw_tbl := tk_2 _ (List.mem_of_getElem? (i := 208) rfl)
theorem wd_449 : Cond.methodLink "RedoQuorumLaw" 72 ⟨"RedoQuorum", "point", "(I)I"⟩ ∈ lw_tbl := tk_2 _ (List.mem_of_getElem? (i := 209) rfl)
theorem wd_450 : Cond.instanceMethod ⟨"RedoQuorum", "point", "(I)I"⟩ ∈ lw_tbl := tk_2 _ (List.mem_of_getElem? (i := 210) rfl)
theorem wd_451 : Cond.selects "RedoQuorum" ⟨"RedoQuorum", "point", "(I)I"⟩ ⟨"RedoQuorum", "point", "(I)I"⟩ ∈ lw_tbl := tk_2 _ (List.mem_of_getElem? (i := 211) rfl)
theorem wd_452 : Cond.code ⟨"RedoQuorum", "point", "(I)I"⟩ prog_1_method_15_code 2 (some .int) ∈ lw_tbl := tk_2 _ (List.mem_of_getElem? (i := 212) rfl)
theorem wd_453 : Cond.methodLink "RedoQuorumLaw" 76 ⟨"RedoQuorum", "copy", "(III)I"⟩ ∈ lw_tbl := tk_2 _ (List.mem_of_getElem? (i := 213) rfl)
theorem wd_454 : Cond.instanceMethod ⟨"RedoQuorum", "copy", "(III)I"⟩ ∈ lw_tbl := tk_2 _ (List.mem_of_getElem? (i := 214) rfl)
theorem wd_455 : Cond.selects "RedoQuorum" ⟨"RedoQuorum", "copy", "(III)I"⟩ ⟨"RedoQuorum", "copy", "(III)I"⟩ ∈ lw_tbl := tk_2 _ (List.mem_of_getElem? (i := 215) rfl)
theorem wd_456 : Cond.code ⟨"RedoQuorum", "copy", "(III)I"⟩ prog_1_method_16_code 5 (some .int) ∈ lw_tbl := tk_2 _ (List.mem_of_getElem? (i := 216) rfl)
theorem wd_457 : Cond.methodLink "RedoQuorum" 202 ⟨"RedoQuorum$StorageCopy", "reach", "(LRedoQuorum$Log;)I"⟩ ∈ lw_tbl := tk_2 _ (List.mem_of_getElem? (i := 217) rfl)
theorem wd_458 : Cond.methodLink "RedoQuorum" 206 ⟨"RedoQuorum$StorageCopy", "keptUpTo", "(I)I"⟩ ∈ lw_tbl := tk_2 _ (List.mem_of_getElem? (i := 218) rfl)
theorem wd_459 : Cond.instanceMethod ⟨"RedoQuorum$StorageCopy", "keptUpTo", "(I)I"⟩ ∈ lw_tbl := tk_2 _ (List.mem_of_getElem? (i := 219) rfl)
theorem wd_460 : Cond.selects "RedoQuorum$StorageCopy" ⟨"RedoQuorum$StorageCopy", "keptUpTo", "(I)I"⟩ ⟨"RedoQuorum$StorageCopy", "keptUpTo", "(I)I"⟩ ∈ lw_tbl := tk_2 _ (List.mem_of_getElem? (i := 220) rfl)
theorem wd_461 : Cond.code ⟨"RedoQuorum$StorageCopy", "keptUpTo", "(I)I"⟩ prog_5_method_11_code 4 (some .int) ∈ lw_tbl := tk_2 _ (List.mem_of_getElem? (i := 221) rfl)
theorem wd_462 : Cond.methodLink "RedoQuorumLaw" 80 ⟨"RedoQuorum", "follow", "(I)I"⟩ ∈ lw_tbl := tk_2 _ (List.mem_of_getElem? (i := 222) rfl)
theorem wd_463 : Cond.instanceMethod ⟨"RedoQuorum", "follow", "(I)I"⟩ ∈ lw_tbl := tk_2 _ (List.mem_of_getElem? (i := 223) rfl)
theorem wd_464 : Cond.selects "RedoQuorum" ⟨"RedoQuorum", "follow", "(I)I"⟩ ⟨"RedoQuorum", "follow", "(I)I"⟩ ∈ lw_tbl := tk_2 _ (List.mem_of_getElem? (i := 224) rfl)
theorem wd_465 : Cond.code ⟨"RedoQuorum", "follow", "(I)I"⟩ prog_1_method_17_code 2 (some .int) ∈ lw_tbl := tk_2 _ (List.mem_of_getElem? (i := 225) rfl)
theorem wd_466 : Cond.methodLink "RedoQuorum" 209 ⟨"RedoQuorum", "isReplica", "(I)Z"⟩ ∈ lw_tbl := tk_2 _ (List.mem_of_getElem? (i := 226) rfl)
theorem wd_467 : Cond.static ⟨"RedoQuorum", "isReplica", "(I)Z"⟩ ∈ lw_tbl := tk_2 _ (List.mem_of_getElem? (i := 227) rfl)
theorem wd_468 : Cond.code ⟨"RedoQuorum", "isReplica", "(I)Z"⟩ prog_1_method_23_code 1 (some .boolean) ∈ lw_tbl := tk_2 _ (List.mem_of_getElem? (i := 228) rfl)
theorem wd_469 : Cond.methodLink "RedoQuorumLaw" 84 ⟨"RedoQuorum", "view", "(II)I"⟩ ∈ lw_tbl := tk_2 _ (List.mem_of_getElem? (i := 229) rfl)
theorem wd_470 : Cond.instanceMethod ⟨"RedoQuorum", "view", "(II)I"⟩ ∈ lw_tbl := tk_2 _ (List.mem_of_getElem? (i := 230) rfl)
theorem wd_471 : Cond.selects "RedoQuorum" ⟨"RedoQuorum", "view", "(II)I"⟩ ⟨"RedoQuorum", "view", "(II)I"⟩ ∈ lw_tbl := tk_2 _ (List.mem_of_getElem? (i := 231) rfl)
theorem wd_472 : Cond.code ⟨"RedoQuorum", "view", "(II)I"⟩ prog_1_method_18_code 3 (some .int) ∈ lw_tbl := tk_2 _ (List.mem_of_getElem? (i := 232) rfl)
theorem wd_473 : Cond.methodLink "RedoQuorum" 219 ⟨"RedoQuorum$Log", "endedValueUpTo", "(II)I"⟩ ∈ lw_tbl := tk_2 _ (List.mem_of_getElem? (i := 233) rfl)
theorem wd_474 : Cond.instanceMethod ⟨"RedoQuorum$Log", "endedValueUpTo", "(II)I"⟩ ∈ lw_tbl := tk_2 _ (List.mem_of_getElem? (i := 234) rfl)
theorem wd_475 : Cond.selects "RedoQuorum$Log" ⟨"RedoQuorum$Log", "endedValueUpTo", "(II)I"⟩ ⟨"RedoQuorum$Log", "endedValueUpTo", "(II)I"⟩ ∈ lw_tbl := tk_2 _ (List.mem_of_getElem? (i := 235) rfl)
theorem wd_476 : Cond.code ⟨"RedoQuorum$Log", "endedValueUpTo", "(II)I"⟩ prog_4_method_12_code 4 (some .int) ∈ lw_tbl := tk_2 _ (List.mem_of_getElem? (i := 236) rfl)
theorem wd_477 : Cond.methodLink "RedoQuorum$Log" 68 ⟨"RedoQuorum$Log", "isEndedBy", "(II)Z"⟩ ∈ lw_tbl := tk_2 _ (List.mem_of_getElem? (i := 237) rfl)
theorem wd_478 : Cond.instanceMethod ⟨"RedoQuorum$Log", "isEndedBy", "(II)Z"⟩ ∈ lw_tbl := tk_2 _ (List.mem_of_getElem? (i := 238) rfl)
theorem wd_479 : Cond.selects "RedoQuorum$Log" ⟨"RedoQuorum$Log", "isEndedBy", "(II)Z"⟩ ⟨"RedoQuorum$Log", "isEndedBy", "(II)Z"⟩ ∈ lw_tbl := tk_2 _ (List.mem_of_getElem? (i := 239) rfl)
theorem wd_480 : Cond.code ⟨"RedoQuorum$Log", "isEndedBy", "(II)Z"⟩ prog_4_method_14_code 3 (some .boolean) ∈ lw_tbl := tk_3 _ (List.mem_of_getElem? (i := 0) rfl)
theorem wd_481 : Cond.methodLink "RedoQuorumLaw" 88 ⟨"RedoQuorum", "collect", "(II)I"⟩ ∈ lw_tbl := tk_3 _ (List.mem_of_getElem? (i := 1) rfl)
theorem wd_482 : Cond.instanceMethod ⟨"RedoQuorum", "collect", "(II)I"⟩ ∈ lw_tbl := tk_3 _ (List.mem_of_getElem? (i := 2) rfl)
theorem wd_483 : Cond.selects "RedoQuorum" ⟨"RedoQuorum", "collect", "(II)I"⟩ ⟨"RedoQuorum", "collect", "(II)I"⟩ ∈ lw_tbl := tk_3 _ (List.mem_of_getElem? (i := 3) rfl)
theorem wd_484 : Cond.code ⟨"RedoQuorum", "collect", "(II)I"⟩ prog_1_method_19_code 7 (some .int) ∈ lw_tbl := tk_3 _ (List.mem_of_getElem? (i := 4) rfl)
theorem wd_485 : Cond.methodLink "RedoQuorum" 222 ⟨"RedoQuorum$Log", "lowOf", "(I)I"⟩ ∈ lw_tbl := tk_3 _ (List.mem_of_getElem? (i := 5) rfl)
theorem wd_486 : Cond.instanceMethod ⟨"RedoQuorum$Log", "lowOf", "(I)I"⟩ ∈ lw_tbl := tk_3 _ (List.mem_of_getElem? (i := 6) rfl)
theorem wd_487 : Cond.selects "RedoQuorum$Log" ⟨"RedoQuorum$Log", "lowOf", "(I)I"⟩ ⟨"RedoQuorum$Log", "lowOf", "(I)I"⟩ ∈ lw_tbl := tk_3 _ (List.mem_of_getElem? (i := 7) rfl)
theorem wd_488 : Cond.code ⟨"RedoQuorum$Log", "lowOf", "(I)I"⟩ prog_4_method_17_code 3 (some .int) ∈ lw_tbl := tk_3 _ (List.mem_of_getElem? (i := 8) rfl)
theorem wd_489 : Cond.methodLink "RedoQuorum" 225 ⟨"java/lang/Math", "min", "(II)I"⟩ ∈ lw_tbl := tk_3 _ (List.mem_of_getElem? (i := 9) rfl)
theorem wd_490 : Cond.methodLink "RedoQuorum" 230 ⟨"RedoQuorum$StorageCopy", "foldUpTo", "(I)I"⟩ ∈ lw_tbl := tk_3 _ (List.mem_of_getElem? (i := 10) rfl)
theorem wd_491 : Cond.instanceMethod ⟨"RedoQuorum$StorageCopy", "foldUpTo", "(I)I"⟩ ∈ lw_tbl := tk_3 _ (List.mem_of_getElem? (i := 11) rfl)
theorem wd_492 : Cond.selects "RedoQuorum$StorageCopy" ⟨"RedoQuorum$StorageCopy", "foldUpTo", "(I)I"⟩ ⟨"RedoQuorum$StorageCopy", "foldUpTo", "(I)I"⟩ ∈ lw_tbl := tk_3 _ (List.mem_of_getElem? (i := 12) rfl)
theorem wd_493 : Cond.code ⟨"RedoQuorum$StorageCopy", "foldUpTo", "(I)I"⟩ prog_5_method_12_code 3 (some .int) ∈ lw_tbl := tk_3 _ (List.mem_of_getElem? (i := 13) rfl)
theorem wd_494 : Cond.methodLink "RedoQuorum$StorageCopy" 52 ⟨"RedoQuorum$StorageCopy", "keptUpTo", "(I)I"⟩ ∈ lw_tbl := tk_3 _ (List.mem_of_getElem? (i := 14) rfl)
theorem wd_495 : Cond.methodLink "RedoQuorumLaw" 92 ⟨"RedoQuorum", "cached", "(I)I"⟩ ∈ lw_tbl := tk_3 _ (List.mem_of_getElem? (i := 15) rfl)
theorem wd_496 : Cond.instanceMethod ⟨"RedoQuorum", "cached", "(I)I"⟩ ∈ lw_tbl := tk_3 _ (List.mem_of_getElem? (i := 16) rfl)
theorem wd_497 : Cond.selects "RedoQuorum" ⟨"RedoQuorum", "cached", "(I)I"⟩ ⟨"RedoQuorum", "cached", "(I)I"⟩ ∈ lw_tbl := tk_3 _ (List.mem_of_getElem? (i := 17) rfl)
theorem wd_498 : Cond.code ⟨"RedoQuorum", "cached", "(I)I"⟩ prog_1_method_20_code 2 (some .int) ∈ lw_tbl := tk_3 _ (List.mem_of_getElem? (i := 18) rfl)
theorem wd_499 : Cond.classLink "RedoQuorumLaw" 10 "RedoQuorumModel" ∈ lw_tbl := tk_3 _ (List.mem_of_getElem? (i := 19) rfl)
theorem wd_500 : Cond.instantiable "RedoQuorumModel" 18 ∈ lw_tbl := tk_3 _ (List.mem_of_getElem? (i := 20) rfl)
theorem wd_501 : Cond.methodLink "RedoQuorumLaw" 12 ⟨"RedoQuorumModel", "<init>", "()V"⟩ ∈ lw_tbl := tk_3 _ (List.mem_of_getElem? (i := 21) rfl)
theorem wd_502 : Cond.instanceMethod ⟨"RedoQuorumModel", "<init>", "()V"⟩ ∈ lw_tbl := tk_3 _ (List.mem_of_getElem? (i := 22) rfl)
theorem wd_503 : Cond.code ⟨"RedoQuorumModel", "<init>", "()V"⟩ prog_8_method_1_code 1 (none : Option Jvm.ClassFile.FieldType) ∈ lw_tbl := tk_3 _ (List.mem_of_getElem? (i := 23) rfl)
theorem wd_504 : Cond.methodLink "RedoQuorumModel" 1 ⟨"java/lang/Object", "<init>", "()V"⟩ ∈ lw_tbl := tk_3 _ (List.mem_of_getElem? (i := 24) rfl)
theorem wd_505 : Cond.fieldLink "RedoQuorumModel" 54 "RedoQuorumModel" "n" "I" ∈ lw_tbl := tk_3 _ (List.mem_of_getElem? (i := 25) rfl)
theorem wd_506 : Cond.fieldLink "RedoQuorumModel" 7 "RedoQuorumModel" "owner" "[I" ∈ lw_tbl := tk_3 _ (List.mem_of_getElem? (i := 26) rfl)
theorem wd_507 : Cond.fieldLink "RedoQuorumModel" 13 "RedoQuorumModel" "keyOf" "[I" ∈ lw_tbl := tk_3 _ (List.mem_of_getElem? (i := 27) rfl)
theorem wd_508 : Cond.fieldLink "RedoQuorumModel" 16 "RedoQuorumModel" "valueOf" "[I" ∈ lw_tbl := tk_3 _ (List.mem_of_getElem? (i := 28) rfl)
theorem wd_509 : Cond.fieldLink "RedoQuorumModel" 19 "RedoQuorumModel" "ends" "[I" ∈ lw_tbl := tk_3 _ (List.mem_of_getElem? (i := 29) rfl)
theorem wd_510 : Cond.fieldLink "RedoQuorumModel" 22 "RedoQuorumModel" "closes" "[Z" ∈ lw_tbl := tk_3 _ (List.mem_of_getElem? (i := 30) rfl)
theorem wd_511 : Cond.fieldLink "RedoQuorumModel" 26 "RedoQuorumModel" "holds" "[Z" ∈ lw_tbl := tk_3 _ (List.mem_of_getElem? (i := 31) rfl)
theorem wd_512 : Cond.fieldLink "RedoQuorumModel" 29 "RedoQuorumModel" "stateOf" "[I" ∈ lw_tbl := tk_3 _ (List.mem_of_getElem? (i := 32) rfl)
theorem wd_513 : Cond.fieldLink "RedoQuorumModel" 32 "RedoQuorumModel" "fold" "[I" ∈ lw_tbl := tk_3 _ (List.mem_of_getElem? (i := 33) rfl)
theorem wd_514 : Cond.fieldLink "RedoQuorumModel" 35 "RedoQuorumModel" "reported" "[I" ∈ lw_tbl := tk_3 _ (List.mem_of_getElem? (i := 34) rfl)
theorem wd_515 : Cond.fieldLink "RedoQuorumModel" 117 "RedoQuorumModel" "down" "Z" ∈ lw_tbl := tk_3 _ (List.mem_of_getElem? (i := 35) rfl)
theorem wd_516 : Cond.fieldLink "RedoQuorumModel" 94 "RedoQuorumModel" "durable" "I" ∈ lw_tbl := tk_3 _ (List.mem_of_getElem? (i := 36) rfl)
theorem wd_517 : Cond.fieldLink "RedoQuorumModel" 50 "RedoQuorumModel" "begun" "I" ∈ lw_tbl := tk_3 _ (List.mem_of_getElem? (i := 37) rfl)
theorem wd_518 : Cond.fieldLink "RedoQuorumModel" 38 "RedoQuorumModel" "active" "[Z" ∈ lw_tbl := tk_3 _ (List.mem_of_getElem? (i := 38) rfl)
theorem wd_519 : Cond.fieldLink "RedoQuorumModel" 41 "RedoQuorumModel" "heldBy" "[I" ∈ lw_tbl := tk_3 _ (List.mem_of_getElem? (i := 39) rfl)
theorem wd_520 : Cond.fieldLink "RedoQuorumModel" 44 "RedoQuorumModel" "cache" "[I" ∈ lw_tbl := tk_3 _ (List.mem_of_getElem? (i := 40) rfl)
theorem wd_521 : Cond.fieldLink "RedoQuorumModel" 97 "RedoQuorumModel" "pages" "I" ∈ lw_tbl := tk_3 _ (List.mem_of_getElem? (i := 41) rfl)
theorem wd_522 : Cond.fieldLink "RedoQuorumModel" 47 "RedoQuorumModel" "views" "[I" ∈ lw_tbl := tk_3 _ (List.mem_of_getElem? (i := 42) rfl)
theorem wd_523 : Cond.lays "RedoQuorumModel" "RedoQuorumModel" "n" "I" ∈ lw_tbl := tk_3 _ (List.mem_of_getElem? (i := 43) rfl)
theorem wd_525 : Cond.lays "RedoQuorumModel" "RedoQuorumModel" "owner" "[I" ∈ lw_tbl := tk_3 _ (List.mem_of_getElem? (i := 45) rfl)
theorem wd_527 : Cond.lays "RedoQuorumModel" "RedoQuorumModel" "keyOf" "[I" ∈ lw_tbl := tk_3 _ (List.mem_of_getElem? (i := 47) rfl)
theorem wd_529 : Cond.lays "RedoQuorumModel" "RedoQuorumModel" "valueOf" "[I" ∈ lw_tbl := tk_3 _ (List.mem_of_getElem? (i := 49) rfl)
theorem wd_531 : Cond.lays "RedoQuorumModel" "RedoQuorumModel" "ends" "[I" ∈ lw_tbl := tk_3 _ (List.mem_of_getElem? (i := 51) rfl)
theorem wd_533 : Cond.lays "RedoQuorumModel" "RedoQuorumModel" "closes" "[Z" ∈ lw_tbl := tk_3 _ (List.mem_of_getElem? (i := 53) rfl)
theorem wd_535 : Cond.lays "RedoQuorumModel" "RedoQuorumModel" "holds" "[Z" ∈ lw_tbl := tk_3 _ (List.mem_of_getElem? (i := 55) rfl)
theorem wd_537 : Cond.lays "RedoQuorumModel" "RedoQuorumModel" "stateOf" "[I" ∈ lw_tbl := tk_3 _ (List.mem_of_getElem? (i := 57) rfl)
theorem wd_539 : Cond.lays "RedoQuorumModel" "RedoQuorumModel" "fold" "[I" ∈ lw_tbl := tk_3 _ (List.mem_of_getElem? (i := 59) rfl)
theorem wd_541 : Cond.lays "RedoQuorumModel" "RedoQuorumModel" "reported" "[I" ∈ lw_tbl := tk_3 _ (List.mem_of_getElem? (i := 61) rfl)
theorem wd_543 : Cond.lays "RedoQuorumModel" "RedoQuorumModel" "down" "Z" ∈ lw_tbl := tk_3 _ (List.mem_of_getElem? (i := 63) rfl)
theorem wd_545 : Cond.lays "RedoQuorumModel" "RedoQuorumModel" "durable" "I" ∈ lw_tbl := tk_3 _ (List.mem_of_getElem? (i := 65) rfl)
theorem wd_547 : Cond.lays "RedoQuorumModel" "RedoQuorumModel" "begun" "I" ∈ lw_tbl := tk_3 _ (List.mem_of_getElem? (i := 67) rfl)
theorem wd_549 : Cond.lays "RedoQuorumModel" "RedoQuorumModel" "active" "[Z" ∈ lw_tbl := tk_3 _ (List.mem_of_getElem? (i := 69) rfl)
theorem wd_551 : Cond.lays "RedoQuorumModel" "RedoQuorumModel" "heldBy" "[I" ∈ lw_tbl := tk_3 _ (List.mem_of_getElem? (i := 71) rfl)
theorem wd_553 : Cond.lays "RedoQuorumModel" "RedoQuorumModel" "cache" "[I" ∈ lw_tbl := tk_3 _ (List.mem_of_getElem? (i := 73) rfl)
theorem wd_555 : Cond.lays "RedoQuorumModel" "RedoQuorumModel" "pages" "I" ∈ lw_tbl := tk_3 _ (List.mem_of_getElem? (i := 75) rfl)
theorem wd_557 : Cond.lays "RedoQuorumModel" "RedoQuorumModel" "views" "[I" ∈ lw_tbl := tk_3 _ (List.mem_of_getElem? (i := 77) rfl)
theorem wd_560 : Cond.methodLink "RedoQuorumLaw" 95 ⟨"RedoQuorumModel", "cached", "(I)I"⟩ ∈ lw_tbl := tk_3 _ (List.mem_of_getElem? (i := 80) rfl)
theorem wd_561 : Cond.instanceMethod ⟨"RedoQuorumModel", "cached", "(I)I"⟩ ∈ lw_tbl := tk_3 _ (List.mem_of_getElem? (i := 81) rfl)
theorem wd_562 : Cond.selects "RedoQuorumModel" ⟨"RedoQuorumModel", "cached", "(I)I"⟩ ⟨"RedoQuorumModel", "cached", "(I)I"⟩ ∈ lw_tbl := tk_3 _ (List.mem_of_getElem? (i := 82) rfl)
theorem wd_563 : Cond.code ⟨"RedoQuorumModel", "cached", "(I)I"⟩ prog_8_method_25_code 3 (some .int) ∈ lw_tbl := tk_3 _ (List.mem_of_getElem? (i := 83) rfl)
theorem wd_564 : Cond.methodLink "RedoQuorumModel" 103 ⟨"RedoQuorumModel", "placeOf", "(I)I"⟩ ∈ lw_tbl := tk_3 _ (List.mem_of_getElem? (i := 84) rfl)
theorem wd_566 : Cond.instanceMethod ⟨"RedoQuorumModel", "placeOf", "(I)I"⟩ ∈ lw_tbl := tk_3 _ (List.mem_of_getElem? (i := 86) rfl)
theorem wd_567 : Cond.code ⟨"RedoQuorumModel", "placeOf", "(I)I"⟩ prog_8_method_21_code 3 (some .int) ∈ lw_tbl := tk_3 _ (List.mem_of_getElem? (i := 87) rfl)
theorem wd_568 : Cond.methodLink "RedoQuorumLaw" 17 ⟨"RedoQuorumModel", "begin", "()I"⟩ ∈ lw_tbl := tk_3 _ (List.mem_of_getElem? (i := 88) rfl)
theorem wd_569 : Cond.instanceMethod ⟨"RedoQuorumModel", "begin", "()I"⟩ ∈ lw_tbl := tk_3 _ (List.mem_of_getElem? (i := 89) rfl)
theorem wd_570 : Cond.selects "RedoQuorumModel" ⟨"RedoQuorumModel", "begin", "()I"⟩ ⟨"RedoQuorumModel", "begin", "()I"⟩ ∈ lw_tbl := tk_3 _ (List.mem_of_getElem? (i := 90) rfl)
theorem wd_571 : Cond.code ⟨"RedoQuorumModel", "begin", "()I"⟩ prog_8_method_26_code 3 (some .int) ∈ lw_tbl := tk_3 _ (List.mem_of_getElem? (i := 91) rfl)
theorem wd_572 : Cond.methodLink "RedoQuorumLaw" 22 ⟨"RedoQuorumModel", "read", "(II)I"⟩ ∈ lw_tbl := tk_3 _ (List.mem_of_getElem? (i := 92) rfl)
theorem wd_573 : Cond.instanceMethod ⟨"RedoQuorumModel", "read", "(II)I"⟩ ∈ lw_tbl := tk_3 _ (List.mem_of_getElem? (i := 93) rfl)
theorem wd_574 : Cond.selects "RedoQuorumModel" ⟨"RedoQuorumModel", "read", "(II)I"⟩ ⟨"RedoQuorumModel", "read", "(II)I"⟩ ∈ lw_tbl := tk_3 _ (List.mem_of_getElem? (i := 94) rfl)
theorem wd_575 : Cond.code ⟨"RedoQuorumModel", "read", "(II)I"⟩ prog_8_method_28_code 4 (some .int) ∈ lw_tbl := tk_3 _ (List.mem_of_getElem? (i := 95) rfl)
theorem wd_576 : Cond.methodLink "RedoQuorumModel" 121 ⟨"RedoQuorumModel", "isKey", "(I)Z"⟩ ∈ lw_tbl := tk_3 _ (List.mem_of_getElem? (i := 96) rfl)
theorem wd_577 : Cond.static ⟨"RedoQuorumModel", "isKey", "(I)Z"⟩ ∈ lw_tbl := tk_3 _ (List.mem_of_getElem? (i := 97) rfl)
theorem wd_578 : Cond.code ⟨"RedoQuorumModel", "isKey", "(I)Z"⟩ prog_8_method_2_code 1 (some .boolean) ∈ lw_tbl := tk_3 _ (List.mem_of_getElem? (i := 98) rfl)
theorem wd_579 : Cond.methodLink "RedoQuorumModel" 125 ⟨"RedoQuorumModel", "isActive", "(I)Z"⟩ ∈ lw_tbl := tk_3 _ (List.mem_of_getElem? (i := 99) rfl)
theorem wd_581 : Cond.instanceMethod ⟨"RedoQuorumModel", "isActive", "(I)Z"⟩ ∈ lw_tbl := tk_3 _ (List.mem_of_getElem? (i := 101) rfl)
theorem wd_582 : Cond.code ⟨"RedoQuorumModel", "isActive", "(I)Z"⟩ prog_8_method_5_code 2 (some .boolean) ∈ lw_tbl := tk_3 _ (List.mem_of_getElem? (i := 102) rfl)
theorem wd_583 : Cond.methodLink "RedoQuorumModel" 128 ⟨"RedoQuorumModel", "locked", "(II)Z"⟩ ∈ lw_tbl := tk_3 _ (List.mem_of_getElem? (i := 103) rfl)
theorem wd_585 : Cond.instanceMethod ⟨"RedoQuorumModel", "locked", "(II)Z"⟩ ∈ lw_tbl := tk_3 _ (List.mem_of_getElem? (i := 105) rfl)
theorem wd_586 : Cond.code ⟨"RedoQuorumModel", "locked", "(II)Z"⟩ prog_8_method_27_code 3 (some .boolean) ∈ lw_tbl := tk_3 _ (List.mem_of_getElem? (i := 106) rfl)
theorem wd_587 : Cond.methodLink "RedoQuorumModel" 131 ⟨"RedoQuorumModel", "touch", "(II)I"⟩ ∈ lw_tbl := tk_3 _ (List.mem_of_getElem? (i := 107) rfl)
theorem wd_589 : Cond.instanceMethod ⟨"RedoQuorumModel", "touch", "(II)I"⟩ ∈ lw_tbl := tk_3 _ (List.mem_of_getElem? (i := 109) rfl)
theorem wd_590 : Cond.code ⟨"RedoQuorumModel", "touch", "(II)I"⟩ prog_8_method_24_code 5 (some .int) ∈ lw_tbl := tk_3 _ (List.mem_of_getElem? (i := 110) rfl)
theorem wd_591 : Cond.methodLink "RedoQuorumModel" 106 ⟨"RedoQuorumModel", "goes", "(I)I"⟩ ∈ lw_tbl := tk_3 _ (List.mem_of_getElem? (i := 111) rfl)
theorem wd_593 : Cond.instanceMethod ⟨"RedoQuorumModel", "goes", "(I)I"⟩ ∈ lw_tbl := tk_3 _ (List.mem_of_getElem? (i := 113) rfl)
theorem wd_594 : Cond.code ⟨"RedoQuorumModel", "goes", "(I)I"⟩ prog_8_method_23_code 3 (some .int) ∈ lw_tbl := tk_3 _ (List.mem_of_getElem? (i := 114) rfl)
theorem wd_595 : Cond.methodLink "RedoQuorumModel" 100 ⟨"RedoQuorumModel", "latest", "(I)I"⟩ ∈ lw_tbl := tk_3 _ (List.mem_of_getElem? (i := 115) rfl)
theorem wd_597 : Cond.instanceMethod ⟨"RedoQuorumModel", "latest", "(I)I"⟩ ∈ lw_tbl := tk_3 _ (List.mem_of_getElem? (i := 117) rfl)
theorem wd_598 : Cond.code ⟨"RedoQuorumModel", "latest", "(I)I"⟩ prog_8_method_8_code 5 (some .int) ∈ lw_tbl := tk_3 _ (List.mem_of_getElem? (i := 118) rfl)
theorem wd_599 : Cond.methodLink "RedoQuorumModel" 57 ⟨"RedoQuorumModel", "changeUpTo", "(II)I"⟩ ∈ lw_tbl := tk_3 _ (List.mem_of_getElem? (i := 119) rfl)
theorem wd_601 : Cond.instanceMethod ⟨"RedoQuorumModel", "changeUpTo", "(II)I"⟩ ∈ lw_tbl := tk_3 _ (List.mem_of_getElem? (i := 121) rfl)
theorem wd_602 : Cond.code ⟨"RedoQuorumModel", "changeUpTo", "(II)I"⟩ prog_8_method_6_code 5 (some .int) ∈ lw_tbl := tk_3 _ (List.mem_of_getElem? (i := 122) rfl)
theorem wd_603 : Cond.methodLink "RedoQuorumModel" 109 ⟨"RedoQuorumModel", "served", "(II)Z"⟩ ∈ lw_tbl := tk_3 _ (List.mem_of_getElem? (i := 123) rfl)
theorem wd_605 : Cond.instanceMethod ⟨"RedoQuorumModel", "served", "(II)Z"⟩ ∈ lw_tbl := tk_3 _ (List.mem_of_getElem? (i := 125) rfl)
theorem wd_606 : Cond.code ⟨"RedoQuorumModel", "served", "(II)Z"⟩ prog_8_method_20_code 6 (some .boolean) ∈ lw_tbl := tk_3 _ (List.mem_of_getElem? (i := 126) rfl)
theorem wd_607 : Cond.methodLink "RedoQuorumModel" 74 ⟨"RedoQuorumModel", "groupOf", "(I)I"⟩ ∈ lw_tbl := tk_3 _ (List.mem_of_getElem? (i := 127) rfl)
theorem wd_609 : Cond.instanceMethod ⟨"RedoQuorumModel", "groupOf", "(I)I"⟩ ∈ lw_tbl := tk_3 _ (List.mem_of_getElem? (i := 129) rfl)
theorem wd_610 : Cond.code ⟨"RedoQuorumModel", "groupOf", "(I)I"⟩ prog_8_method_4_code 2 (some .int) ∈ lw_tbl := tk_3 _ (List.mem_of_getElem? (i := 130) rfl)
theorem wd_611 : Cond.methodLink "RedoQuorumModel" 113 ⟨"RedoQuorumModel", "drop", "(I)V"⟩ ∈ lw_tbl := tk_3 _ (List.mem_of_getElem? (i := 131) rfl)
theorem wd_613 : Cond.instanceMethod ⟨"RedoQuorumModel", "drop", "(I)V"⟩ ∈ lw_tbl := tk_3 _ (List.mem_of_getElem? (i := 133) rfl)
theorem wd_614 : Cond.code ⟨"RedoQuorumModel", "drop", "(I)V"⟩ prog_8_method_22_code 3 (none : Option Jvm.ClassFile.FieldType) ∈ lw_tbl := tk_3 _ (List.mem_of_getElem? (i := 134) rfl)
theorem wd_615 : Cond.methodLink "RedoQuorumModel" 68 ⟨"RedoQuorumModel", "valueUpTo", "(II)I"⟩ ∈ lw_tbl := tk_3 _ (List.mem_of_getElem? (i := 135) rfl)
theorem wd_617 : Cond.instanceMethod ⟨"RedoQuorumModel", "valueUpTo", "(II)I"⟩ ∈ lw_tbl := tk_3 _ (List.mem_of_getElem? (i := 137) rfl)
theorem wd_618 : Cond.code ⟨"RedoQuorumModel", "valueUpTo", "(II)I"⟩ prog_8_method_7_code 4 (some .int) ∈ lw_tbl := tk_3 _ (List.mem_of_getElem? (i := 138) rfl)
theorem wd_619 : Cond.methodLink "RedoQuorumLaw" 27 ⟨"RedoQuorumModel", "write", "(III)I"⟩ ∈ lw_tbl := tk_3 _ (List.mem_of_getElem? (i := 139) rfl)
theorem wd_620 : Cond.instanceMethod ⟨"RedoQuorumModel", "write", "(III)I"⟩ ∈ lw_tbl := tk_3 _ (List.mem_of_getElem? (i := 140) rfl)
theorem wd_621 : Cond.selects "RedoQuorumModel" ⟨"RedoQuorumModel", "write", "(III)I"⟩ ⟨"RedoQuorumModel", "write", "(III)I"⟩ ∈ lw_tbl := tk_3 _ (List.mem_of_getElem? (i := 141) rfl)
theorem wd_622 : Cond.code ⟨"RedoQuorumModel", "write", "(III)I"⟩ prog_8_method_29_code 5 (some .int) ∈ lw_tbl := tk_3 _ (List.mem_of_getElem? (i := 142) rfl)
theorem wd_623 : Cond.methodLink "RedoQuorumModel" 61 ⟨"RedoQuorumModel", "add", "(IIIIZ)I"⟩ ∈ lw_tbl := tk_3 _ (List.mem_of_getElem? (i := 143) rfl)
theorem wd_625 : Cond.instanceMethod ⟨"RedoQuorumModel", "add", "(IIIIZ)I"⟩ ∈ lw_tbl := tk_3 _ (List.mem_of_getElem? (i := 145) rfl)
theorem wd_626 : Cond.code ⟨"RedoQuorumModel", "add", "(IIIIZ)I"⟩ prog_8_method_9_code 7 (some .int) ∈ lw_tbl := tk_3 _ (List.mem_of_getElem? (i := 146) rfl)
theorem wd_627 : Cond.methodLink "RedoQuorumLaw" 32 ⟨"RedoQuorumModel", "shift", "(IIII)I"⟩ ∈ lw_tbl := tk_3 _ (List.mem_of_getElem? (i := 147) rfl)
theorem wd_628 : Cond.instanceMethod ⟨"RedoQuorumModel", "shift", "(IIII)I"⟩ ∈ lw_tbl := tk_3 _ (List.mem_of_getElem? (i := 148) rfl)
theorem wd_629 : Cond.selects "RedoQuorumModel" ⟨"RedoQuorumModel", "shift", "(IIII)I"⟩ ⟨"RedoQuorumModel", "shift", "(IIII)I"⟩ ∈ lw_tbl := tk_3 _ (List.mem_of_getElem? (i := 149) rfl)
theorem wd_630 : Cond.code ⟨"RedoQuorumModel", "shift", "(IIII)I"⟩ prog_8_method_30_code 8 (some .int) ∈ lw_tbl := tk_3 _ (List.mem_of_getElem? (i := 150) rfl)
theorem wd_631 : Cond.methodLink "RedoQuorumLaw" 37 ⟨"RedoQuorumModel", "commit", "(I)I"⟩ ∈ lw_tbl := tk_3 _ (List.mem_of_getElem? (i := 151) rfl)
theorem wd_632 : Cond.instanceMethod ⟨"RedoQuorumModel", "commit", "(I)I"⟩ ∈ lw_tbl := tk_3 _ (List.mem_of_getElem? (i := 152) rfl)
theorem wd_633 : Cond.selects "RedoQuorumModel" ⟨"RedoQuorumModel", "commit", "(I)I"⟩ ⟨"RedoQuorumModel", "commit", "(I)I"⟩ ∈ lw_tbl := tk_3 _ (List.mem_of_getElem? (i := 153) rfl)
theorem wd_634 : Cond.code ⟨"RedoQuorumModel", "commit", "(I)I"⟩ prog_8_method_31_code 2 (some .int) ∈ lw_tbl := tk_3 _ (List.mem_of_getElem? (i := 154) rfl)
theorem wd_635 : Cond.methodLink "RedoQuorumModel" 71 ⟨"RedoQuorumModel", "finish", "(II)I"⟩ ∈ lw_tbl := tk_3 _ (List.mem_of_getElem? (i := 155) rfl)
theorem wd_637 : Cond.instanceMethod ⟨"RedoQuorumModel", "finish", "(II)I"⟩ ∈ lw_tbl := tk_3 _ (List.mem_of_getElem? (i := 157) rfl)
theorem wd_638 : Cond.code ⟨"RedoQuorumModel", "finish", "(II)I"⟩ prog_8_method_10_code 4 (some .int) ∈ lw_tbl := tk_3 _ (List.mem_of_getElem? (i := 158) rfl)
theorem wd_639 : Cond.methodLink "RedoQuorumLaw" 41 ⟨"RedoQuorumModel", "abort", "(I)I"⟩ ∈ lw_tbl := tk_3 _ (List.mem_of_getElem? (i := 159) rfl)
theorem wd_640 : Cond.instanceMethod ⟨"RedoQuorumModel", "abort", "(I)I"⟩ ∈ lw_tbl := tk_3 _ (List.mem_of_getElem? (i := 160) rfl)
theorem wd_641 : Cond.selects "RedoQuorumModel" ⟨"RedoQuorumModel", "abort", "(I)I"⟩ ⟨"RedoQuorumModel", "abort", "(I)I"⟩ ∈ lw_tbl := tk_3 _ (List.mem_of_getElem? (i := 161) rfl)
theorem wd_642 : Cond.code ⟨"RedoQuorumModel", "abort", "(I)I"⟩ prog_8_method_32_code 2 (some .int) ∈ lw_tbl := tk_3 _ (List.mem_of_getElem? (i := 162) rfl)
theorem wd_643 : Cond.methodLink "RedoQuorumModel" 134 ⟨"RedoQuorumModel", "rollBack", "(I)I"⟩ ∈ lw_tbl := tk_3 _ (List.mem_of_getElem? (i := 163) rfl)
theorem wd_645 : Cond.instanceMethod ⟨"RedoQuorumModel", "rollBack", "(I)I"⟩ ∈ lw_tbl := tk_3 _ (List.mem_of_getElem? (i := 165) rfl)
theorem wd_646 : Cond.code ⟨"RedoQuorumModel", "rollBack", "(I)I"⟩ prog_8_method_12_code 6 (some .int) ∈ lw_tbl := tk_3 _ (List.mem_of_getElem? (i := 166) rfl)
theorem wd_647 : Cond.methodLink "RedoQuorumModel" 65 ⟨"RedoQuorumModel", "firstChange", "(II)I"⟩ ∈ lw_tbl := tk_3 _ (List.mem_of_getElem? (i := 167) rfl)
theorem wd_649 : Cond.instanceMethod ⟨"RedoQuorumModel", "firstChange", "(II)I"⟩ ∈ lw_tbl := tk_3 _ (List.mem_of_getElem? (i := 169) rfl)
theorem wd_650 : Cond.code ⟨"RedoQuorumModel", "firstChange", "(II)I"⟩ prog_8_method_11_code 4 (some .int) ∈ lw_tbl := tk_3 _ (List.mem_of_getElem? (i := 170) rfl)
theorem wd_651 : Cond.methodLink "RedoQuorumLaw" 45 ⟨"RedoQuorumModel", "status", "(I)I"⟩ ∈ lw_tbl := tk_3 _ (List.mem_of_getElem? (i := 171) rfl)
theorem wd_652 : Cond.instanceMethod ⟨"RedoQuorumModel", "status", "(I)I"⟩ ∈ lw_tbl := tk_3 _ (List.mem_of_getElem? (i := 172) rfl)
theorem wd_653 : Cond.selects "RedoQuorumModel" ⟨"RedoQuorumModel", "status", "(I)I"⟩ ⟨"RedoQuorumModel", "status", "(I)I"⟩ ∈ lw_tbl := tk_3 _ (List.mem_of_getElem? (i := 173) rfl)
theorem wd_654 : Cond.code ⟨"RedoQuorumModel", "status", "(I)I"⟩ prog_8_method_33_code 3 (some .int) ∈ lw_tbl := tk_3 _ (List.mem_of_getElem? (i := 174) rfl)
theorem wd_655 : Cond.methodLink "RedoQuorumModel" 137 ⟨"RedoQuorumModel", "endOf", "(II)I"⟩ ∈ lw_tbl := tk_3 _ (List.mem_of_getElem? (i := 175) rfl)
theorem wd_657 : Cond.instanceMethod ⟨"RedoQuorumModel", "endOf", "(II)I"⟩ ∈ lw_tbl := tk_3 _ (List.mem_of_getElem? (i := 177) rfl)
theorem wd_658 : Cond.code ⟨"RedoQuorumModel", "endOf", "(II)I"⟩ prog_8_method_13_code 4 (some .int) ∈ lw_tbl := tk_3 _ (List.mem_of_getElem? (i := 178) rfl)
theorem wd_659 : Cond.methodLink "RedoQuorumLaw" 49 ⟨"RedoQuorumModel", "deliver", "(II)I"⟩ ∈ lw_tbl := tk_3 _ (List.mem_of_getElem? (i := 179) rfl)
theorem wd_660 : Cond.instanceMethod ⟨"RedoQuorumModel", "deliver", "(II)I"⟩ ∈ lw_tbl := tk_3 _ (List.mem_of_getElem? (i := 180) rfl)
theorem wd_661 : Cond.selects "RedoQuorumModel" ⟨"RedoQuorumModel", "deliver", "(II)I"⟩ ⟨"RedoQuorumModel", "deliver", "(II)I"⟩ ∈ lw_tbl := tk_3 _ (List.mem_of_getElem? (i := 181) rfl)
theorem wd_662 : Cond.code ⟨"RedoQuorumModel", "deliver", "(II)I"⟩ prog_8_method_34_code 5 (some .int) ∈ lw_tbl := tk_3 _ (List.mem_of_getElem? (i := 182) rfl)
theorem wd_663 : Cond.methodLink "RedoQuorumModel" 140 ⟨"RedoQuorumModel", "reportPoint", "(I)V"⟩ ∈ lw_tbl := tk_3 _ (List.mem_of_getElem? (i := 183) rfl)
theorem wd_665 : Cond.instanceMethod ⟨"RedoQuorumModel", "reportPoint", "(I)V"⟩ ∈ lw_tbl := tk_3 _ (List.mem_of_getElem? (i := 185) rfl)
theorem wd_666 : Cond.code ⟨"RedoQuorumModel", "reportPoint", "(I)V"⟩ prog_8_method_18_code 2 (none : Option Jvm.ClassFile.FieldType) ∈ lw_tbl := tk_3 _ (List.mem_of_getElem? (i := 186) rfl)
theorem wd_667 : Cond.methodLink "RedoQuorumModel" 81 ⟨"RedoQuorumModel", "pointOf", "(I)I"⟩ ∈ lw_tbl := tk_3 _ (List.mem_of_getElem? (i := 187) rfl)
theorem wd_669 : Cond.instanceMethod ⟨"RedoQuorumModel", "pointOf", "(I)I"⟩ ∈ lw_tbl := tk_3 _ (List.mem_of_getElem? (i := 189) rfl)
theorem wd_670 : Cond.code ⟨"RedoQuorumModel", "pointOf", "(I)I"⟩ prog_8_method_14_code 5 (some .int) ∈ lw_tbl := tk_3 _ (List.mem_of_getElem? (i := 190) rfl)
theorem wd_671 : Cond.methodLink "RedoQuorumModel" 84 ⟨"RedoQuorumModel", "advance", "()V"⟩ ∈ lw_tbl := tk_3 _ (List.mem_of_getElem? (i := 191) rfl)
theorem wd_673 : Cond.instanceMethod ⟨"RedoQuorumModel", "advance", "()V"⟩ ∈ lw_tbl := tk_3 _ (List.mem_of_getElem? (i := 193) rfl)
theorem wd_674 : Cond.code ⟨"RedoQuorumModel", "advance", "()V"⟩ prog_8_method_19_code 2 (none : Option Jvm.ClassFile.FieldType) ∈ lw_tbl := tk_3 _ (List.mem_of_getElem? (i := 194) rfl)
theorem wd_675 : Cond.methodLink "RedoQuorumModel" 87 ⟨"RedoQuorumModel", "complete", "()I"⟩ ∈ lw_tbl := tk_3 _ (List.mem_of_getElem? (i := 195) rfl)
theorem wd_677 : Cond.instanceMethod ⟨"RedoQuorumModel", "complete", "()I"⟩ ∈ lw_tbl := tk_3 _ (List.mem_of_getElem? (i := 197) rfl)
theorem wd_678 : Cond.code ⟨"RedoQuorumModel", "complete", "()I"⟩ prog_8_method_16_code 4 (some .int) ∈ lw_tbl := tk_3 _ (List.mem_of_getElem? (i := 198) rfl)
theorem wd_679 : Cond.methodLink "RedoQuorumModel" 78 ⟨"RedoQuorumModel", "groupPoint", "(I)I"⟩ ∈ lw_tbl := tk_3 _ (List.mem_of_getElem? (i := 199) rfl)
theorem wd_681 : Cond.instanceMethod ⟨"RedoQuorumModel", "groupPoint", "(I)I"⟩ ∈ lw_tbl := tk_3 _ (List.mem_of_getElem? (i := 201) rfl)
theorem wd_682 : Cond.code ⟨"RedoQuorumModel", "groupPoint", "(I)I"⟩ prog_8_method_15_code 6 (some .int) ∈ lw_tbl := tk_3 _ (List.mem_of_getElem? (i := 202) rfl)
theorem wd_683 : Cond.methodLink "RedoQuorumModel" 91 ⟨"RedoQuorumModel", "closeUpTo", "(I)I"⟩ ∈ lw_tbl := tk_3 _ (List.mem_of_getElem? (i := 203) rfl)
theorem wd_685 : Cond.instanceMethod ⟨"RedoQuorumModel", "closeUpTo", "(I)I"⟩ ∈ lw_tbl := tk_3 _ (List.mem_of_getElem? (i := 205) rfl)
theorem wd_686 : Cond.code ⟨"RedoQuorumModel", "closeUpTo", "(I)I"⟩ prog_8_method_17_code 4 (some .int) ∈ lw_tbl := tk_3 _ (List.mem_of_getElem? (i := 206) rfl)
theorem wd_687 : Cond.methodLink "RedoQuorumLaw" 53 ⟨"RedoQuorumModel", "gossip", "(III)I"⟩ ∈ lw_tbl := tk_3 _ (List.mem_of_getElem? (i := 207) rfl)
theorem wd_688 : Cond.instanceMethod ⟨"RedoQuorumModel", "gossip", "(III)I"⟩ ∈ lw_tbl := tk_3 _ (List.mem_of_getElem? (i := 208) rfl)
theorem wd_689 : Cond.selects "RedoQuorumModel" ⟨"RedoQuorumModel", "gossip", "(III)I"⟩ ⟨"RedoQuorumModel", "gossip", "(III)I"⟩ ∈ lw_tbl := tk_3 _ (List.mem_of_getElem? (i := 209) rfl)
theorem wd_690 : Cond.code ⟨"RedoQuorumModel", "gossip", "(III)I"⟩ prog_8_method_36_code 4 (some .int) ∈ lw_tbl := tk_3 _ (List.mem_of_getElem? (i := 210) rfl)
theorem wd_691 : Cond.methodLink "RedoQuorumModel" 143 ⟨"RedoQuorumModel", "isCopy", "(II)Z"⟩ ∈ lw_tbl := tk_3 _ (List.mem_of_getElem? (i := 211) rfl)
theorem wd_692 : Cond.static ⟨"RedoQuorumModel", "isCopy", "(II)Z"⟩ ∈ lw_tbl := tk_3 _ (List.mem_of_getElem? (i := 212) rfl)
theorem wd_693 : Cond.code ⟨"RedoQuorumModel", "isCopy", "(II)Z"⟩ prog_8_method_3_code 2 (some .boolean) ∈ lw_tbl := tk_3 _ (List.mem_of_getElem? (i := 213) rfl)
theorem wd_694 : Cond.methodLink "RedoQuorumModel" 146 ⟨"RedoQuorumModel", "join", "(II)I"⟩ ∈ lw_tbl := tk_3 _ (List.mem_of_getElem? (i := 214) rfl)
theorem wd_696 : Cond.instanceMethod ⟨"RedoQuorumModel", "join", "(II)I"⟩ ∈ lw_tbl := tk_3 _ (List.mem_of_getElem? (i := 216) rfl)
theorem wd_697 : Cond.code ⟨"RedoQuorumModel", "join", "(II)I"⟩ prog_8_method_35_code 5 (some .int) ∈ lw_tbl := tk_3 _ (List.mem_of_getElem? (i := 217) rfl)
theorem wd_698 : Cond.methodLink "RedoQuorumLaw" 57 ⟨"RedoQuorumModel", "report", "(II)I"⟩ ∈ lw_tbl := tk_3 _ (List.mem_of_getElem? (i := 218) rfl)
theorem wd_699 : Cond.instanceMethod ⟨"RedoQuorumModel", "report", "(II)I"⟩ ∈ lw_tbl := tk_3 _ (List.mem_of_getElem? (i := 219) rfl)
theorem wd_700 : Cond.selects "RedoQuorumModel" ⟨"RedoQuorumModel", "report", "(II)I"⟩ ⟨"RedoQuorumModel", "report", "(II)I"⟩ ∈ lw_tbl := tk_3 _ (List.mem_of_getElem? (i := 220) rfl)
theorem wd_701 : Cond.code ⟨"RedoQuorumModel", "report", "(II)I"⟩ prog_8_method_37_code 3 (some .int) ∈ lw_tbl := tk_3 _ (List.mem_of_getElem? (i := 221) rfl)
theorem wd_702 : Cond.methodLink "RedoQuorumLaw" 62 ⟨"RedoQuorumModel", "fault", "(III)Z"⟩ ∈ lw_tbl := tk_3 _ (List.mem_of_getElem? (i := 222) rfl)
theorem wd_703 : Cond.instanceMethod ⟨"RedoQuorumModel", "fault", "(III)Z"⟩ ∈ lw_tbl := tk_3 _ (List.mem_of_getElem? (i := 223) rfl)
theorem wd_704 : Cond.selects "RedoQuorumModel" ⟨"RedoQuorumModel", "fault", "(III)Z"⟩ ⟨"RedoQuorumModel", "fault", "(III)Z"⟩ ∈ lw_tbl := tk_3 _ (List.mem_of_getElem? (i := 224) rfl)
theorem wd_705 : Cond.code ⟨"RedoQuorumModel", "fault", "(III)Z"⟩ prog_8_method_39_code 8 (some .boolean) ∈ lw_tbl := tk_3 _ (List.mem_of_getElem? (i := 225) rfl)
theorem wd_706 : Cond.methodLink "RedoQuorumModel" 149 ⟨"RedoQuorumModel", "live", "(I)I"⟩ ∈ lw_tbl := tk_3 _ (List.mem_of_getElem? (i := 226) rfl)
theorem wd_708 : Cond.instanceMethod ⟨"RedoQuorumModel", "live", "(I)I"⟩ ∈ lw_tbl := tk_3 _ (List.mem_of_getElem? (i := 228) rfl)
theorem wd_709 : Cond.code ⟨"RedoQuorumModel", "live", "(I)I"⟩ prog_8_method_38_code 4 (some .int) ∈ lw_tbl := tk_3 _ (List.mem_of_getElem? (i := 229) rfl)
theorem wd_710 : Cond.methodLink "RedoQuorumLaw" 67 ⟨"RedoQuorumModel", "crash", "()Z"⟩ ∈ lw_tbl := tk_3 _ (List.mem_of_getElem? (i := 230) rfl)
theorem wd_711 : Cond.instanceMethod ⟨"RedoQuorumModel", "crash", "()Z"⟩ ∈ lw_tbl := tk_3 _ (List.mem_of_getElem? (i := 231) rfl)
theorem wd_712 : Cond.selects "RedoQuorumModel" ⟨"RedoQuorumModel", "crash", "()Z"⟩ ⟨"RedoQuorumModel", "crash", "()Z"⟩ ∈ lw_tbl := tk_3 _ (List.mem_of_getElem? (i := 232) rfl)
theorem wd_713 : Cond.code ⟨"RedoQuorumModel", "crash", "()Z"⟩ prog_8_method_40_code 2 (some .boolean) ∈ lw_tbl := tk_3 _ (List.mem_of_getElem? (i := 233) rfl)
theorem wd_714 : Cond.methodLink "RedoQuorumLaw" 71 ⟨"RedoQuorumModel", "recover", "()I"⟩ ∈ lw_tbl := tk_3 _ (List.mem_of_getElem? (i := 234) rfl)
theorem wd_715 : Cond.instanceMethod ⟨"RedoQuorumModel", "recover", "()I"⟩ ∈ lw_tbl := tk_3 _ (List.mem_of_getElem? (i := 235) rfl)
theorem wd_716 : Cond.selects "RedoQuorumModel" ⟨"RedoQuorumModel", "recover", "()I"⟩ ⟨"RedoQuorumModel", "recover", "()I"⟩ ∈ lw_tbl := tk_3 _ (List.mem_of_getElem? (i := 236) rfl)
theorem wd_717 : Cond.code ⟨"RedoQuorumModel", "recover", "()I"⟩ prog_8_method_42_code 6 (some .int) ∈ lw_tbl := tk_3 _ (List.mem_of_getElem? (i := 237) rfl)
theorem wd_718 : Cond.methodLink "RedoQuorumModel" 152 ⟨"RedoQuorumModel", "survives", "(I)Z"⟩ ∈ lw_tbl := tk_3 _ (List.mem_of_getElem? (i := 238) rfl)
theorem wd_720 : Cond.instanceMethod ⟨"RedoQuorumModel", "survives", "(I)Z"⟩ ∈ lw_tbl := tk_4 _ (List.mem_of_getElem? (i := 0) rfl)
theorem wd_721 : Cond.code ⟨"RedoQuorumModel", "survives", "(I)Z"⟩ prog_8_method_41_code 5 (some .boolean) ∈ lw_tbl := tk_4 _ (List.mem_of_getElem? (i := 1) rfl)
theorem wd_722 : Cond.methodLink "RedoQuorumLaw" 75 ⟨"RedoQuorumModel", "point", "(I)I"⟩ ∈ lw_tbl := tk_4 _ (List.mem_of_getElem? (i := 2) rfl)
theorem wd_723 : Cond.instanceMethod ⟨"RedoQuorumModel", "point", "(I)I"⟩ ∈ lw_tbl := tk_4 _ (List.mem_of_getElem? (i := 3) rfl)
theorem wd_724 : Cond.selects "RedoQuorumModel" ⟨"RedoQuorumModel", "point", "(I)I"⟩ ⟨"RedoQuorumModel", "point", "(I)I"⟩ ∈ lw_tbl := tk_4 _ (List.mem_of_getElem? (i := 4) rfl)
theorem wd_725 : Cond.code ⟨"RedoQuorumModel", "point", "(I)I"⟩ prog_8_method_43_code 2 (some .int) ∈ lw_tbl := tk_4 _ (List.mem_of_getElem? (i := 5) rfl)
theorem wd_726 : Cond.methodLink "RedoQuorumLaw" 79 ⟨"RedoQuorumModel", "copy", "(III)I"⟩ ∈ lw_tbl := tk_4 _ (List.mem_of_getElem? (i := 6) rfl)
theorem wd_727 : Cond.instanceMethod ⟨"RedoQuorumModel", "copy", "(III)I"⟩ ∈ lw_tbl := tk_4 _ (List.mem_of_getElem? (i := 7) rfl)
theorem wd_728 : Cond.selects "RedoQuorumModel" ⟨"RedoQuorumModel", "copy", "(III)I"⟩ ⟨"RedoQuorumModel", "copy", "(III)I"⟩ ∈ lw_tbl := tk_4 _ (List.mem_of_getElem? (i := 8) rfl)
theorem wd_729 : Cond.code ⟨"RedoQuorumModel", "copy", "(III)I"⟩ prog_8_method_44_code 7 (some .int) ∈ lw_tbl := tk_4 _ (List.mem_of_getElem? (i := 9) rfl)
theorem wd_730 : Cond.methodLink "RedoQuorumLaw" 83 ⟨"RedoQuorumModel", "follow", "(I)I"⟩ ∈ lw_tbl := tk_4 _ (List.mem_of_getElem? (i := 10) rfl)
theorem wd_731 : Cond.instanceMethod ⟨"RedoQuorumModel", "follow", "(I)I"⟩ ∈ lw_tbl := tk_4 _ (List.mem_of_getElem? (i := 11) rfl)
theorem wd_732 : Cond.selects "RedoQuorumModel" ⟨"RedoQuorumModel", "follow", "(I)I"⟩ ⟨"RedoQuorumModel", "follow", "(I)I"⟩ ∈ lw_tbl := tk_4 _ (List.mem_of_getElem? (i := 12) rfl)
theorem wd_733 : Cond.code ⟨"RedoQuorumModel", "follow", "(I)I"⟩ prog_8_method_45_code 2 (some .int) ∈ lw_tbl := tk_4 _ (List.mem_of_getElem? (i := 13) rfl)
theorem wd_734 : Cond.methodLink "RedoQuorumLaw" 87 ⟨"RedoQuorumModel", "view", "(II)I"⟩ ∈ lw_tbl := tk_4 _ (List.mem_of_getElem? (i := 14) rfl)
theorem wd_735 : Cond.instanceMethod ⟨"RedoQuorumModel", "view", "(II)I"⟩ ∈ lw_tbl := tk_4 _ (List.mem_of_getElem? (i := 15) rfl)
theorem wd_736 : Cond.selects "RedoQuorumModel" ⟨"RedoQuorumModel", "view", "(II)I"⟩ ⟨"RedoQuorumModel", "view", "(II)I"⟩ ∈ lw_tbl := tk_4 _ (List.mem_of_getElem? (i := 16) rfl)
theorem wd_737 : Cond.code ⟨"RedoQuorumModel", "view", "(II)I"⟩ prog_8_method_46_code 6 (some .int) ∈ lw_tbl := tk_4 _ (List.mem_of_getElem? (i := 17) rfl)
theorem wd_738 : Cond.methodLink "RedoQuorumLaw" 91 ⟨"RedoQuorumModel", "collect", "(II)I"⟩ ∈ lw_tbl := tk_4 _ (List.mem_of_getElem? (i := 18) rfl)
theorem wd_739 : Cond.instanceMethod ⟨"RedoQuorumModel", "collect", "(II)I"⟩ ∈ lw_tbl := tk_4 _ (List.mem_of_getElem? (i := 19) rfl)
theorem wd_740 : Cond.selects "RedoQuorumModel" ⟨"RedoQuorumModel", "collect", "(II)I"⟩ ⟨"RedoQuorumModel", "collect", "(II)I"⟩ ∈ lw_tbl := tk_4 _ (List.mem_of_getElem? (i := 20) rfl)
theorem wd_741 : Cond.code ⟨"RedoQuorumModel", "collect", "(II)I"⟩ prog_8_method_48_code 10 (some .int) ∈ lw_tbl := tk_4 _ (List.mem_of_getElem? (i := 21) rfl)
theorem wd_742 : Cond.methodLink "RedoQuorumModel" 155 ⟨"RedoQuorumModel", "low", "(I)I"⟩ ∈ lw_tbl := tk_4 _ (List.mem_of_getElem? (i := 22) rfl)
theorem wd_744 : Cond.instanceMethod ⟨"RedoQuorumModel", "low", "(I)I"⟩ ∈ lw_tbl := tk_4 _ (List.mem_of_getElem? (i := 24) rfl)
theorem wd_745 : Cond.code ⟨"RedoQuorumModel", "low", "(I)I"⟩ prog_8_method_47_code 4 (some .int) ∈ lw_tbl := tk_4 _ (List.mem_of_getElem? (i := 25) rfl)
theorem lay_0 : q_lays 0 "RedoQuorum" q_T0 7 := ⟨rfl, fun w h => by
  have h : w ∈ ([.laysFinal "RedoQuorum" "RedoQuorum" "log" "LRedoQuorum$Log;", .laysFinal "RedoQuorum" "RedoQuorum" "transactions" "LRedoQuorum$Transactions;", .laysFinal "RedoQuorum" "RedoQuorum" "groups" "[LRedoQuorum$Group;", .laysFinal "RedoQuorum" "RedoQuorum" "cache" "LRedoQuorum$Cache;", .laysFinal "RedoQuorum" "RedoQuorum" "views" "[I", .lays "RedoQuorum" "RedoQuorum" "up" "Z", .lays "RedoQuorum" "RedoQuorum" "durable" "I"] : List Cond) := h
  simp only [List.mem_cons, List.not_mem_nil, or_false] at h
  rcases h with rfl | rfl | rfl | rfl | rfl | rfl | rfl
  · exact ⟨wd_134, by decide +kernel⟩
  · exact ⟨wd_136, by decide +kernel⟩
  · exact ⟨wd_138, by decide +kernel⟩
  · exact ⟨wd_140, by decide +kernel⟩
  · exact ⟨wd_142, by decide +kernel⟩
  · exact ⟨wd_144, by decide +kernel⟩
  · exact ⟨wd_146, by decide +kernel⟩⟩
theorem typ_0 : q_typs q_T0 7 q_y0 := ⟨by decide +kernel, by decide +kernel⟩
theorem lay_1 : q_lays 1 "RedoQuorum$Log" q_T1 7 := ⟨rfl, fun w h => by
  have h : w ∈ ([.laysFinal "RedoQuorum$Log" "RedoQuorum$Log" "kind" "[I", .laysFinal "RedoQuorum$Log" "RedoQuorum$Log" "owner" "[I", .laysFinal "RedoQuorum$Log" "RedoQuorum$Log" "key" "[I", .laysFinal "RedoQuorum$Log" "RedoQuorum$Log" "value" "[I", .laysFinal "RedoQuorum$Log" "RedoQuorum$Log" "group" "[I", .laysFinal "RedoQuorum$Log" "RedoQuorum$Log" "end" "[I", .lays "RedoQuorum$Log" "RedoQuorum$Log" "size" "I"] : List Cond) := h
  simp only [List.mem_cons, List.not_mem_nil, or_false] at h
  rcases h with rfl | rfl | rfl | rfl | rfl | rfl | rfl
  · exact ⟨wd_35, by decide +kernel⟩
  · exact ⟨wd_37, by decide +kernel⟩
  · exact ⟨wd_39, by decide +kernel⟩
  · exact ⟨wd_41, by decide +kernel⟩
  · exact ⟨wd_43, by decide +kernel⟩
  · exact ⟨wd_45, by decide +kernel⟩
  · exact ⟨wd_47, by decide +kernel⟩⟩
theorem typ_1 : q_typs q_T1 7 q_y1 := ⟨by decide +kernel, by decide +kernel⟩
theorem lay_2 : q_lays 2 "RedoQuorum$Transactions" q_T2 4 := ⟨rfl, fun w h => by
  have h : w ∈ ([.laysFinal "RedoQuorum$Transactions" "RedoQuorum$Transactions" "active" "[Z", .laysFinal "RedoQuorum$Transactions" "RedoQuorum$Transactions" "holder" "[I", .lays "RedoQuorum$Transactions" "RedoQuorum$Transactions" "begun" "I", .lays "RedoQuorum$Transactions" "RedoQuorum$Transactions" "activeCount" "I"] : List Cond) := h
  simp only [List.mem_cons, List.not_mem_nil, or_false] at h
  rcases h with rfl | rfl | rfl | rfl
  · exact ⟨wd_62, by decide +kernel⟩
  · exact ⟨wd_64, by decide +kernel⟩
  · exact ⟨wd_66, by decide +kernel⟩
  · exact ⟨wd_68, by decide +kernel⟩⟩
theorem typ_2 : q_typs q_T2 4 q_y2 := ⟨by decide +kernel, by decide +kernel⟩
theorem lay_3 : q_lays 3 "RedoQuorum$Group" q_T3 1 := ⟨rfl, fun w h => by
  have h : w ∈ ([.laysFinal "RedoQuorum$Group" "RedoQuorum$Group" "copies" "[LRedoQuorum$StorageCopy;"] : List Cond) := h
  simp only [List.mem_cons, List.not_mem_nil, or_false] at h
  rcases h with rfl
  · exact ⟨wd_109, by decide +kernel⟩⟩
theorem typ_3 : q_typs q_T3 1 q_y3 := ⟨by decide +kernel, by decide +kernel⟩
theorem lay_4 : q_lays 4 "RedoQuorum$StorageCopy" q_T4 5 := ⟨rfl, fun w h => by
  have h : w ∈ ([.laysFinal "RedoQuorum$StorageCopy" "RedoQuorum$StorageCopy" "group" "I", .laysFinal "RedoQuorum$StorageCopy" "RedoQuorum$StorageCopy" "held" "[Z", .lays "RedoQuorum$StorageCopy" "RedoQuorum$StorageCopy" "state" "I", .lays "RedoQuorum$StorageCopy" "RedoQuorum$StorageCopy" "fold" "I", .lays "RedoQuorum$StorageCopy" "RedoQuorum$StorageCopy" "reported" "I"] : List Cond) := h
  simp only [List.mem_cons, List.not_mem_nil, or_false] at h
  rcases h with rfl | rfl | rfl | rfl | rfl
  · exact ⟨wd_96, by decide +kernel⟩
  · exact ⟨wd_98, by decide +kernel⟩
  · exact ⟨wd_100, by decide +kernel⟩
  · exact ⟨wd_102, by decide +kernel⟩
  · exact ⟨wd_104, by decide +kernel⟩⟩
theorem typ_4 : q_typs q_T4 5 q_y4 := ⟨by decide +kernel, by decide +kernel⟩
theorem lay_5 : q_lays 5 "RedoQuorum$Cache" q_T5 2 := ⟨rfl, fun w h => by
  have h : w ∈ ([.laysFinal "RedoQuorum$Cache" "RedoQuorum$Cache" "pages" "[I", .lays "RedoQuorum$Cache" "RedoQuorum$Cache" "count" "I"] : List Cond) := h
  simp only [List.mem_cons, List.not_mem_nil, or_false] at h
  rcases h with rfl | rfl
  · exact ⟨wd_122, by decide +kernel⟩
  · exact ⟨wd_124, by decide +kernel⟩⟩
theorem typ_5 : q_typs q_T5 2 q_y5 := ⟨by decide +kernel, by decide +kernel⟩
theorem lay_6 : q_lays 6 "RedoQuorumModel" q_T6 18 := ⟨rfl, fun w h => by
  have h : w ∈ ([.lays "RedoQuorumModel" "RedoQuorumModel" "n" "I", .lays "RedoQuorumModel" "RedoQuorumModel" "owner" "[I", .lays "RedoQuorumModel" "RedoQuorumModel" "keyOf" "[I", .lays "RedoQuorumModel" "RedoQuorumModel" "valueOf" "[I", .lays "RedoQuorumModel" "RedoQuorumModel" "ends" "[I", .lays "RedoQuorumModel" "RedoQuorumModel" "closes" "[Z", .lays "RedoQuorumModel" "RedoQuorumModel" "holds" "[Z", .lays "RedoQuorumModel" "RedoQuorumModel" "stateOf" "[I", .lays "RedoQuorumModel" "RedoQuorumModel" "fold" "[I", .lays "RedoQuorumModel" "RedoQuorumModel" "reported" "[I", .lays "RedoQuorumModel" "RedoQuorumModel" "down" "Z", .lays "RedoQuorumModel" "RedoQuorumModel" "durable" "I", .lays "RedoQuorumModel" "RedoQuorumModel" "begun" "I", .lays "RedoQuorumModel" "RedoQuorumModel" "active" "[Z", .lays "RedoQuorumModel" "RedoQuorumModel" "heldBy" "[I", .lays "RedoQuorumModel" "RedoQuorumModel" "cache" "[I", .lays "RedoQuorumModel" "RedoQuorumModel" "pages" "I", .lays "RedoQuorumModel" "RedoQuorumModel" "views" "[I"] : List Cond) := h
  simp only [List.mem_cons, List.not_mem_nil, or_false] at h
  rcases h with rfl | rfl | rfl | rfl | rfl | rfl | rfl | rfl | rfl | rfl | rfl | rfl | rfl | rfl | rfl | rfl | rfl | rfl
  · exact ⟨wd_523, by decide +kernel⟩
  · exact ⟨wd_525, by decide +kernel⟩
  · exact ⟨wd_527, by decide +kernel⟩
  · exact ⟨wd_529, by decide +kernel⟩
  · exact ⟨wd_531, by decide +kernel⟩
  · exact ⟨wd_533, by decide +kernel⟩
  · exact ⟨wd_535, by decide +kernel⟩
  · exact ⟨wd_537, by decide +kernel⟩
  · exact ⟨wd_539, by decide +kernel⟩
  · exact ⟨wd_541, by decide +kernel⟩
  · exact ⟨wd_543, by decide +kernel⟩
  · exact ⟨wd_545, by decide +kernel⟩
  · exact ⟨wd_547, by decide +kernel⟩
  · exact ⟨wd_549, by decide +kernel⟩
  · exact ⟨wd_551, by decide +kernel⟩
  · exact ⟨wd_553, by decide +kernel⟩
  · exact ⟨wd_555, by decide +kernel⟩
  · exact ⟨wd_557, by decide +kernel⟩⟩
theorem typ_6 : q_typs q_T6 18 q_y6 := ⟨by decide +kernel, by decide +kernel⟩
def M_Q_init : qM := (⟨"RedoQuorum", "<init>", "()V"⟩, prog_1_method_1_code, 2, none)
theorem cd_Q_init : q_code M_Q_init 0 := ⟨⟨wd_13, by decide +kernel⟩, ⟨wd_1, by decide +kernel⟩, ⟨by decide +kernel, by decide +kernel⟩, by decide +kernel⟩
theorem in_Q_init : q_inst M_Q_init := ⟨wd_12, by decide +kernel⟩
def M_L_init : qM := (⟨"RedoQuorum$Log", "<init>", "()V"⟩, prog_4_method_1_code, 1, none)
theorem cd_L_init : q_code M_L_init 0 := ⟨⟨wd_21, by decide +kernel⟩, ⟨wd_2, by decide +kernel⟩, ⟨by decide +kernel, by decide +kernel⟩, by decide +kernel⟩
theorem in_L_init : q_inst M_L_init := ⟨wd_20, by decide +kernel⟩
def M_T_init : qM := (⟨"RedoQuorum$Transactions", "<init>", "()V"⟩, prog_6_method_1_code, 1, none)
theorem cd_T_init : q_code M_T_init 0 := ⟨⟨wd_55, by decide +kernel⟩, ⟨wd_3, by decide +kernel⟩, ⟨by decide +kernel, by decide +kernel⟩, by decide +kernel⟩
theorem in_T_init : q_inst M_T_init := ⟨wd_54, by decide +kernel⟩
def M_G_init : qM := (⟨"RedoQuorum$Group", "<init>", "(I)V"⟩, prog_3_method_1_code, 3, none)
theorem cd_G_init : q_code M_G_init 1 := ⟨⟨wd_77, by decide +kernel⟩, ⟨wd_4, by decide +kernel⟩, ⟨by decide +kernel, by decide +kernel⟩, by decide +kernel⟩
theorem in_G_init : q_inst M_G_init := ⟨wd_76, by decide +kernel⟩
def M_C_init : qM := (⟨"RedoQuorum$StorageCopy", "<init>", "(I)V"⟩, prog_5_method_1_code, 2, none)
theorem cd_C_init : q_code M_C_init 1 := ⟨⟨wd_84, by decide +kernel⟩, ⟨wd_5, by decide +kernel⟩, ⟨by decide +kernel, by decide +kernel⟩, by decide +kernel⟩
theorem in_C_init : q_inst M_C_init := ⟨wd_83, by decide +kernel⟩
def M_H_init : qM := (⟨"RedoQuorum$Cache", "<init>", "()V"⟩, prog_2_method_1_code, 1, none)
theorem cd_H_init : q_code M_H_init 0 := ⟨⟨wd_116, by decide +kernel⟩, ⟨wd_6, by decide +kernel⟩, ⟨by decide +kernel, by decide +kernel⟩, by decide +kernel⟩
theorem in_H_init : q_inst M_H_init := ⟨wd_115, by decide +kernel⟩
def M_Q_begin : qM := (⟨"RedoQuorum", "begin", "()I"⟩, prog_1_method_2_code, 1, some .int)
theorem cd_Q_begin : q_code M_Q_begin 0 := ⟨⟨wd_152, by decide +kernel⟩, ⟨wd_1, by decide +kernel⟩, ⟨by decide +kernel, by decide +kernel⟩, by decide +kernel⟩
theorem in_Q_begin : q_inst M_Q_begin := ⟨wd_150, by decide +kernel⟩
theorem se_Q_begin : q_sel M_Q_begin := ⟨wd_151, by decide +kernel⟩
def M_T_isFull : qM := (⟨"RedoQuorum$Transactions", "isFull", "()Z"⟩, prog_6_method_2_code, 1, some .boolean)
theorem cd_T_isFull : q_code M_T_isFull 0 := ⟨⟨wd_156, by decide +kernel⟩, ⟨wd_3, by decide +kernel⟩, ⟨by decide +kernel, by decide +kernel⟩, by decide +kernel⟩
theorem in_T_isFull : q_inst M_T_isFull := ⟨wd_154, by decide +kernel⟩
theorem se_T_isFull : q_sel M_T_isFull := ⟨wd_155, by decide +kernel⟩
def M_T_start : qM := (⟨"RedoQuorum$Transactions", "start", "()I"⟩, prog_6_method_3_code, 1, some .int)
theorem cd_T_start : q_code M_T_start 0 := ⟨⟨wd_160, by decide +kernel⟩, ⟨wd_3, by decide +kernel⟩, ⟨by decide +kernel, by decide +kernel⟩, by decide +kernel⟩
theorem in_T_start : q_inst M_T_start := ⟨wd_158, by decide +kernel⟩
theorem se_T_start : q_sel M_T_start := ⟨wd_159, by decide +kernel⟩
def M_Q_read : qM := (⟨"RedoQuorum", "read", "(II)I"⟩, prog_1_method_3_code, 4, some .int)
theorem cd_Q_read : q_code M_Q_read 2 := ⟨⟨wd_164, by decide +kernel⟩, ⟨wd_1, by decide +kernel⟩, ⟨by decide +kernel, by decide +kernel⟩, by decide +kernel⟩
theorem in_Q_read : q_inst M_Q_read := ⟨wd_162, by decide +kernel⟩
theorem se_Q_read : q_sel M_Q_read := ⟨wd_163, by decide +kernel⟩
def M_Q_isKey : qM := (⟨"RedoQuorum", "isKey", "(I)Z"⟩, prog_1_method_21_code, 1, some .boolean)
theorem cd_Q_isKey : q_code M_Q_isKey 1 := ⟨⟨wd_167, by decide +kernel⟩, ⟨wd_1, by decide +kernel⟩, ⟨by decide +kernel, by decide +kernel⟩, by decide +kernel⟩
theorem st_Q_isKey : q_stat M_Q_isKey := ⟨wd_166, by decide +kernel⟩
def M_Q_refusalOfKeys : qM := (⟨"RedoQuorum", "refusalOfKeys", "(III)I"⟩, prog_1_method_27_code, 5, some .int)
theorem cd_Q_refusalOfKeys : q_code M_Q_refusalOfKeys 3 := ⟨⟨wd_171, by decide +kernel⟩, ⟨wd_1, by decide +kernel⟩, ⟨by decide +kernel, by decide +kernel⟩, by decide +kernel⟩
theorem in_Q_refusalOfKeys : q_inst M_Q_refusalOfKeys := ⟨wd_170, by decide +kernel⟩
theorem se_Q_refusalOfKeys : q_sel M_Q_refusalOfKeys := ⟨List.mem_of_getElem? (i := 0) rfl, by decide +kernel⟩
def M_Q_refusalOfTransaction : qM := (⟨"RedoQuorum", "refusalOfTransaction", "(I)I"⟩, prog_1_method_26_code, 2, some .int)
theorem cd_Q_refusalOfTransaction : q_code M_Q_refusalOfTransaction 1 := ⟨⟨wd_175, by decide +kernel⟩, ⟨wd_1, by decide +kernel⟩, ⟨by decide +kernel, by decide +kernel⟩, by decide +kernel⟩
theorem in_Q_refusalOfTransaction : q_inst M_Q_refusalOfTransaction := ⟨wd_174, by decide +kernel⟩
theorem se_Q_refusalOfTransaction : q_sel M_Q_refusalOfTransaction := ⟨List.mem_of_getElem? (i := 1) rfl, by decide +kernel⟩
def M_T_isActive : qM := (⟨"RedoQuorum$Transactions", "isActive", "(I)Z"⟩, prog_6_method_4_code, 2, some .boolean)
theorem cd_T_isActive : q_code M_T_isActive 1 := ⟨⟨wd_179, by decide +kernel⟩, ⟨wd_3, by decide +kernel⟩, ⟨by decide +kernel, by decide +kernel⟩, by decide +kernel⟩
theorem in_T_isActive : q_inst M_T_isActive := ⟨wd_177, by decide +kernel⟩
theorem se_T_isActive : q_sel M_T_isActive := ⟨wd_178, by decide +kernel⟩
def M_T_mayHold : qM := (⟨"RedoQuorum$Transactions", "mayHold", "(II)Z"⟩, prog_6_method_5_code, 3, some .boolean)
theorem cd_T_mayHold : q_code M_T_mayHold 2 := ⟨⟨wd_183, by decide +kernel⟩, ⟨wd_3, by decide +kernel⟩, ⟨by decide +kernel, by decide +kernel⟩, by decide +kernel⟩
theorem in_T_mayHold : q_inst M_T_mayHold := ⟨wd_181, by decide +kernel⟩
theorem se_T_mayHold : q_sel M_T_mayHold := ⟨wd_182, by decide +kernel⟩
def M_Q_pageOf : qM := (⟨"RedoQuorum", "pageOf", "(I)I"⟩, prog_1_method_24_code, 1, some .int)
theorem cd_Q_pageOf : q_code M_Q_pageOf 1 := ⟨⟨wd_186, by decide +kernel⟩, ⟨wd_1, by decide +kernel⟩, ⟨by decide +kernel, by decide +kernel⟩, by decide +kernel⟩
theorem st_Q_pageOf : q_stat M_Q_pageOf := ⟨wd_185, by decide +kernel⟩
def M_Q_touch : qM := (⟨"RedoQuorum", "touch", "(II)I"⟩, prog_1_method_30_code, 4, some .int)
theorem cd_Q_touch : q_code M_Q_touch 2 := ⟨⟨wd_190, by decide +kernel⟩, ⟨wd_1, by decide +kernel⟩, ⟨by decide +kernel, by decide +kernel⟩, by decide +kernel⟩
theorem in_Q_touch : q_inst M_Q_touch := ⟨wd_189, by decide +kernel⟩
theorem se_Q_touch : q_sel M_Q_touch := ⟨List.mem_of_getElem? (i := 2) rfl, by decide +kernel⟩
def M_H_rankOf : qM := (⟨"RedoQuorum$Cache", "rankOf", "(I)I"⟩, prog_2_method_3_code, 3, some .int)
theorem cd_H_rankOf : q_code M_H_rankOf 1 := ⟨⟨wd_194, by decide +kernel⟩, ⟨wd_6, by decide +kernel⟩, ⟨by decide +kernel, by decide +kernel⟩, by decide +kernel⟩
theorem in_H_rankOf : q_inst M_H_rankOf := ⟨wd_192, by decide +kernel⟩
theorem se_H_rankOf : q_sel M_H_rankOf := ⟨wd_193, by decide +kernel⟩
def M_H_remove : qM := (⟨"RedoQuorum$Cache", "remove", "(I)V"⟩, prog_2_method_5_code, 4, none)
theorem cd_H_remove : q_code M_H_remove 1 := ⟨⟨wd_198, by decide +kernel⟩, ⟨wd_6, by decide +kernel⟩, ⟨by decide +kernel, by decide +kernel⟩, by decide +kernel⟩
theorem in_H_remove : q_inst M_H_remove := ⟨wd_196, by decide +kernel⟩
theorem se_H_remove : q_sel M_H_remove := ⟨wd_197, by decide +kernel⟩
def M_H_append : qM := (⟨"RedoQuorum$Cache", "append", "(I)V"⟩, prog_2_method_4_code, 2, none)
theorem cd_H_append : q_code M_H_append 1 := ⟨⟨wd_202, by decide +kernel⟩, ⟨wd_6, by decide +kernel⟩, ⟨by decide +kernel, by decide +kernel⟩, by decide +kernel⟩
theorem in_H_append : q_inst M_H_append := ⟨wd_200, by decide +kernel⟩
theorem se_H_append : q_sel M_H_append := ⟨wd_201, by decide +kernel⟩
def M_Q_pageThatMayGo : qM := (⟨"RedoQuorum", "pageThatMayGo", "(I)I"⟩, prog_1_method_31_code, 4, some .int)
theorem cd_Q_pageThatMayGo : q_code M_Q_pageThatMayGo 1 := ⟨⟨wd_206, by decide +kernel⟩, ⟨wd_1, by decide +kernel⟩, ⟨by decide +kernel, by decide +kernel⟩, by decide +kernel⟩
theorem in_Q_pageThatMayGo : q_inst M_Q_pageThatMayGo := ⟨wd_205, by decide +kernel⟩
theorem se_Q_pageThatMayGo : q_sel M_Q_pageThatMayGo := ⟨List.mem_of_getElem? (i := 3) rfl, by decide +kernel⟩
def M_Q_isAheadOfDurable : qM := (⟨"RedoQuorum", "isAheadOfDurable", "(I)Z"⟩, prog_1_method_32_code, 2, some .boolean)
theorem cd_Q_isAheadOfDurable : q_code M_Q_isAheadOfDurable 1 := ⟨⟨wd_210, by decide +kernel⟩, ⟨wd_1, by decide +kernel⟩, ⟨by decide +kernel, by decide +kernel⟩, by decide +kernel⟩
theorem in_Q_isAheadOfDurable : q_inst M_Q_isAheadOfDurable := ⟨wd_209, by decide +kernel⟩
theorem se_Q_isAheadOfDurable : q_sel M_Q_isAheadOfDurable := ⟨List.mem_of_getElem? (i := 4) rfl, by decide +kernel⟩
def M_L_latestOf : qM := (⟨"RedoQuorum$Log", "latestOf", "(I)I"⟩, prog_4_method_13_code, 3, some .int)
theorem cd_L_latestOf : q_code M_L_latestOf 1 := ⟨⟨wd_214, by decide +kernel⟩, ⟨wd_2, by decide +kernel⟩, ⟨by decide +kernel, by decide +kernel⟩, by decide +kernel⟩
theorem in_L_latestOf : q_inst M_L_latestOf := ⟨wd_212, by decide +kernel⟩
theorem se_L_latestOf : q_sel M_L_latestOf := ⟨wd_213, by decide +kernel⟩
def M_L_isEnd : qM := (⟨"RedoQuorum$Log", "isEnd", "(I)Z"⟩, prog_4_method_8_code, 2, some .boolean)
theorem cd_L_isEnd : q_code M_L_isEnd 1 := ⟨⟨wd_218, by decide +kernel⟩, ⟨wd_2, by decide +kernel⟩, ⟨by decide +kernel, by decide +kernel⟩, by decide +kernel⟩
theorem in_L_isEnd : q_inst M_L_isEnd := ⟨wd_216, by decide +kernel⟩
theorem se_L_isEnd : q_sel M_L_isEnd := ⟨wd_217, by decide +kernel⟩
def M_H_isFull : qM := (⟨"RedoQuorum$Cache", "isFull", "()Z"⟩, prog_2_method_2_code, 1, some .boolean)
theorem cd_H_isFull : q_code M_H_isFull 0 := ⟨⟨wd_223, by decide +kernel⟩, ⟨wd_6, by decide +kernel⟩, ⟨by decide +kernel, by decide +kernel⟩, by decide +kernel⟩
theorem in_H_isFull : q_inst M_H_isFull := ⟨wd_221, by decide +kernel⟩
theorem se_H_isFull : q_sel M_H_isFull := ⟨wd_222, by decide +kernel⟩
def M_Q_groupOfPage : qM := (⟨"RedoQuorum", "groupOfPage", "(I)I"⟩, prog_1_method_25_code, 1, some .int)
theorem cd_Q_groupOfPage : q_code M_Q_groupOfPage 1 := ⟨⟨wd_226, by decide +kernel⟩, ⟨wd_1, by decide +kernel⟩, ⟨by decide +kernel, by decide +kernel⟩, by decide +kernel⟩
theorem st_Q_groupOfPage : q_stat M_Q_groupOfPage := ⟨wd_225, by decide +kernel⟩
def M_G_serves : qM := (⟨"RedoQuorum$Group", "serves", "(ILRedoQuorum$Log;)Z"⟩, prog_3_method_4_code, 4, some .boolean)
theorem cd_G_serves : q_code M_G_serves 2 := ⟨⟨wd_230, by decide +kernel⟩, ⟨wd_4, by decide +kernel⟩, ⟨by decide +kernel, by decide +kernel⟩, by decide +kernel⟩
theorem in_G_serves : q_inst M_G_serves := ⟨wd_228, by decide +kernel⟩
theorem se_G_serves : q_sel M_G_serves := ⟨wd_229, by decide +kernel⟩
def M_C_isLive : qM := (⟨"RedoQuorum$StorageCopy", "isLive", "()Z"⟩, prog_5_method_2_code, 1, some .boolean)
theorem cd_C_isLive : q_code M_C_isLive 0 := ⟨⟨wd_234, by decide +kernel⟩, ⟨wd_5, by decide +kernel⟩, ⟨by decide +kernel, by decide +kernel⟩, by decide +kernel⟩
theorem in_C_isLive : q_inst M_C_isLive := ⟨wd_232, by decide +kernel⟩
theorem se_C_isLive : q_sel M_C_isLive := ⟨wd_233, by decide +kernel⟩
def M_C_holdsAllUpTo : qM := (⟨"RedoQuorum$StorageCopy", "holdsAllUpTo", "(ILRedoQuorum$Log;)Z"⟩, prog_5_method_10_code, 4, some .boolean)
theorem cd_C_holdsAllUpTo : q_code M_C_holdsAllUpTo 2 := ⟨⟨wd_238, by decide +kernel⟩, ⟨wd_5, by decide +kernel⟩, ⟨by decide +kernel, by decide +kernel⟩, by decide +kernel⟩
theorem in_C_holdsAllUpTo : q_inst M_C_holdsAllUpTo := ⟨wd_236, by decide +kernel⟩
theorem se_C_holdsAllUpTo : q_sel M_C_holdsAllUpTo := ⟨wd_237, by decide +kernel⟩
def M_T_hold : qM := (⟨"RedoQuorum$Transactions", "hold", "(II)V"⟩, prog_6_method_6_code, 3, none)
theorem cd_T_hold : q_code M_T_hold 2 := ⟨⟨wd_242, by decide +kernel⟩, ⟨wd_3, by decide +kernel⟩, ⟨by decide +kernel, by decide +kernel⟩, by decide +kernel⟩
theorem in_T_hold : q_inst M_T_hold := ⟨wd_240, by decide +kernel⟩
theorem se_T_hold : q_sel M_T_hold := ⟨wd_241, by decide +kernel⟩
def M_L_valueUpTo : qM := (⟨"RedoQuorum$Log", "valueUpTo", "(II)I"⟩, prog_4_method_11_code, 4, some .int)
theorem cd_L_valueUpTo : q_code M_L_valueUpTo 2 := ⟨⟨wd_246, by decide +kernel⟩, ⟨wd_2, by decide +kernel⟩, ⟨by decide +kernel, by decide +kernel⟩, by decide +kernel⟩
theorem in_L_valueUpTo : q_inst M_L_valueUpTo := ⟨wd_244, by decide +kernel⟩
theorem se_L_valueUpTo : q_sel M_L_valueUpTo := ⟨wd_245, by decide +kernel⟩
def M_Q_write : qM := (⟨"RedoQuorum", "write", "(III)I"⟩, prog_1_method_4_code, 5, some .int)
theorem cd_Q_write : q_code M_Q_write 3 := ⟨⟨wd_250, by decide +kernel⟩, ⟨wd_1, by decide +kernel⟩, ⟨by decide +kernel, by decide +kernel⟩, by decide +kernel⟩
theorem in_Q_write : q_inst M_Q_write := ⟨wd_248, by decide +kernel⟩
theorem se_Q_write : q_sel M_Q_write := ⟨wd_249, by decide +kernel⟩
def M_Q_refusalOfChanges : qM := (⟨"RedoQuorum", "refusalOfChanges", "(III)I"⟩, prog_1_method_28_code, 5, some .int)
theorem cd_Q_refusalOfChanges : q_code M_Q_refusalOfChanges 3 := ⟨⟨wd_254, by decide +kernel⟩, ⟨wd_1, by decide +kernel⟩, ⟨by decide +kernel, by decide +kernel⟩, by decide +kernel⟩
theorem in_Q_refusalOfChanges : q_inst M_Q_refusalOfChanges := ⟨wd_253, by decide +kernel⟩
theorem se_Q_refusalOfChanges : q_sel M_Q_refusalOfChanges := ⟨List.mem_of_getElem? (i := 5) rfl, by decide +kernel⟩
def M_L_addChange : qM := (⟨"RedoQuorum$Log", "addChange", "(IIIZ)I"⟩, prog_4_method_3_code, 5, some .int)
theorem cd_L_addChange : q_code M_L_addChange 4 := ⟨⟨wd_258, by decide +kernel⟩, ⟨wd_2, by decide +kernel⟩, ⟨by decide +kernel, by decide +kernel⟩, by decide +kernel⟩
theorem in_L_addChange : q_inst M_L_addChange := ⟨wd_256, by decide +kernel⟩
theorem se_L_addChange : q_sel M_L_addChange := ⟨wd_257, by decide +kernel⟩
def M_L_add : qM := (⟨"RedoQuorum$Log", "add", "(IIIII)I"⟩, prog_4_method_5_code, 6, some .int)
theorem cd_L_add : q_code M_L_add 5 := ⟨⟨wd_263, by decide +kernel⟩, ⟨wd_2, by decide +kernel⟩, ⟨by decide +kernel, by decide +kernel⟩, by decide +kernel⟩
theorem in_L_add : q_inst M_L_add := ⟨wd_262, by decide +kernel⟩
theorem se_L_add : q_sel M_L_add := ⟨List.mem_of_getElem? (i := 6) rfl, by decide +kernel⟩
def M_Q_shift : qM := (⟨"RedoQuorum", "shift", "(IIII)I"⟩, prog_1_method_5_code, 8, some .int)
theorem cd_Q_shift : q_code M_Q_shift 4 := ⟨⟨wd_267, by decide +kernel⟩, ⟨wd_1, by decide +kernel⟩, ⟨by decide +kernel, by decide +kernel⟩, by decide +kernel⟩
theorem in_Q_shift : q_inst M_Q_shift := ⟨wd_265, by decide +kernel⟩
theorem se_Q_shift : q_sel M_Q_shift := ⟨wd_266, by decide +kernel⟩
def M_Q_commit : qM := (⟨"RedoQuorum", "commit", "(I)I"⟩, prog_1_method_6_code, 3, some .int)
theorem cd_Q_commit : q_code M_Q_commit 1 := ⟨⟨wd_271, by decide +kernel⟩, ⟨wd_1, by decide +kernel⟩, ⟨by decide +kernel, by decide +kernel⟩, by decide +kernel⟩
theorem in_Q_commit : q_inst M_Q_commit := ⟨wd_269, by decide +kernel⟩
theorem se_Q_commit : q_sel M_Q_commit := ⟨wd_270, by decide +kernel⟩
def M_T_finish : qM := (⟨"RedoQuorum$Transactions", "finish", "(I)V"⟩, prog_6_method_7_code, 3, none)
theorem cd_T_finish : q_code M_T_finish 1 := ⟨⟨wd_275, by decide +kernel⟩, ⟨wd_3, by decide +kernel⟩, ⟨by decide +kernel, by decide +kernel⟩, by decide +kernel⟩
theorem in_T_finish : q_inst M_T_finish := ⟨wd_273, by decide +kernel⟩
theorem se_T_finish : q_sel M_T_finish := ⟨wd_274, by decide +kernel⟩
def M_L_addEnd : qM := (⟨"RedoQuorum$Log", "addEnd", "(IZ)I"⟩, prog_4_method_4_code, 4, some .int)
theorem cd_L_addEnd : q_code M_L_addEnd 2 := ⟨⟨wd_279, by decide +kernel⟩, ⟨wd_2, by decide +kernel⟩, ⟨by decide +kernel, by decide +kernel⟩, by decide +kernel⟩
theorem in_L_addEnd : q_inst M_L_addEnd := ⟨wd_277, by decide +kernel⟩
theorem se_L_addEnd : q_sel M_L_addEnd := ⟨wd_278, by decide +kernel⟩
def M_Q_abort : qM := (⟨"RedoQuorum", "abort", "(I)I"⟩, prog_1_method_7_code, 3, some .int)
theorem cd_Q_abort : q_code M_Q_abort 1 := ⟨⟨wd_286, by decide +kernel⟩, ⟨wd_1, by decide +kernel⟩, ⟨by decide +kernel, by decide +kernel⟩, by decide +kernel⟩
theorem in_Q_abort : q_inst M_Q_abort := ⟨wd_284, by decide +kernel⟩
theorem se_Q_abort : q_sel M_Q_abort := ⟨wd_285, by decide +kernel⟩
def M_L_rollBack : qM := (⟨"RedoQuorum$Log", "rollBack", "(I)I"⟩, prog_4_method_6_code, 4, some .int)
theorem cd_L_rollBack : q_code M_L_rollBack 1 := ⟨⟨wd_290, by decide +kernel⟩, ⟨wd_2, by decide +kernel⟩, ⟨by decide +kernel, by decide +kernel⟩, by decide +kernel⟩
theorem in_L_rollBack : q_inst M_L_rollBack := ⟨wd_288, by decide +kernel⟩
theorem se_L_rollBack : q_sel M_L_rollBack := ⟨wd_289, by decide +kernel⟩
def M_L_firstChange : qM := (⟨"RedoQuorum$Log", "firstChange", "(II)I"⟩, prog_4_method_16_code, 4, some .int)
theorem cd_L_firstChange : q_code M_L_firstChange 2 := ⟨⟨wd_294, by decide +kernel⟩, ⟨wd_2, by decide +kernel⟩, ⟨by decide +kernel, by decide +kernel⟩, by decide +kernel⟩
theorem in_L_firstChange : q_inst M_L_firstChange := ⟨wd_293, by decide +kernel⟩
theorem se_L_firstChange : q_sel M_L_firstChange := ⟨List.mem_of_getElem? (i := 7) rfl, by decide +kernel⟩
def M_Q_status : qM := (⟨"RedoQuorum", "status", "(I)I"⟩, prog_1_method_8_code, 3, some .int)
theorem cd_Q_status : q_code M_Q_status 1 := ⟨⟨wd_301, by decide +kernel⟩, ⟨wd_1, by decide +kernel⟩, ⟨by decide +kernel, by decide +kernel⟩, by decide +kernel⟩
theorem in_Q_status : q_inst M_Q_status := ⟨wd_299, by decide +kernel⟩
theorem se_Q_status : q_sel M_Q_status := ⟨wd_300, by decide +kernel⟩
def M_L_commits : qM := (⟨"RedoQuorum$Log", "commits", "(I)Z"⟩, prog_4_method_9_code, 2, some .boolean)
theorem cd_L_commits : q_code M_L_commits 1 := ⟨⟨wd_305, by decide +kernel⟩, ⟨wd_2, by decide +kernel⟩, ⟨by decide +kernel, by decide +kernel⟩, by decide +kernel⟩
theorem in_L_commits : q_inst M_L_commits := ⟨wd_303, by decide +kernel⟩
theorem se_L_commits : q_sel M_L_commits := ⟨wd_304, by decide +kernel⟩
def M_Q_deliver : qM := (⟨"RedoQuorum", "deliver", "(II)I"⟩, prog_1_method_9_code, 5, some .int)
theorem cd_Q_deliver : q_code M_Q_deliver 2 := ⟨⟨wd_309, by decide +kernel⟩, ⟨wd_1, by decide +kernel⟩, ⟨by decide +kernel, by decide +kernel⟩, by decide +kernel⟩
theorem in_Q_deliver : q_inst M_Q_deliver := ⟨wd_307, by decide +kernel⟩
theorem se_Q_deliver : q_sel M_Q_deliver := ⟨wd_308, by decide +kernel⟩
def M_L_has : qM := (⟨"RedoQuorum$Log", "has", "(I)Z"⟩, prog_4_method_2_code, 2, some .boolean)
theorem cd_L_has : q_code M_L_has 1 := ⟨⟨wd_313, by decide +kernel⟩, ⟨wd_2, by decide +kernel⟩, ⟨by decide +kernel, by decide +kernel⟩, by decide +kernel⟩
theorem in_L_has : q_inst M_L_has := ⟨wd_311, by decide +kernel⟩
theorem se_L_has : q_sel M_L_has := ⟨wd_312, by decide +kernel⟩
def M_C_take : qM := (⟨"RedoQuorum$StorageCopy", "take", "(I)Z"⟩, prog_5_method_5_code, 3, some .boolean)
theorem cd_C_take : q_code M_C_take 1 := ⟨⟨wd_318, by decide +kernel⟩, ⟨wd_5, by decide +kernel⟩, ⟨by decide +kernel, by decide +kernel⟩, by decide +kernel⟩
theorem in_C_take : q_inst M_C_take := ⟨wd_316, by decide +kernel⟩
theorem se_C_take : q_sel M_C_take := ⟨wd_317, by decide +kernel⟩
def M_C_tellReach : qM := (⟨"RedoQuorum$StorageCopy", "tellReach", "(LRedoQuorum$Log;)V"⟩, prog_5_method_9_code, 2, none)
theorem cd_C_tellReach : q_code M_C_tellReach 1 := ⟨⟨wd_322, by decide +kernel⟩, ⟨wd_5, by decide +kernel⟩, ⟨by decide +kernel, by decide +kernel⟩, by decide +kernel⟩
theorem in_C_tellReach : q_inst M_C_tellReach := ⟨wd_320, by decide +kernel⟩
theorem se_C_tellReach : q_sel M_C_tellReach := ⟨wd_321, by decide +kernel⟩
def M_C_reach : qM := (⟨"RedoQuorum$StorageCopy", "reach", "(LRedoQuorum$Log;)I"⟩, prog_5_method_8_code, 4, some .int)
theorem cd_C_reach : q_code M_C_reach 1 := ⟨⟨wd_326, by decide +kernel⟩, ⟨wd_5, by decide +kernel⟩, ⟨by decide +kernel, by decide +kernel⟩, by decide +kernel⟩
theorem in_C_reach : q_inst M_C_reach := ⟨wd_324, by decide +kernel⟩
theorem se_C_reach : q_sel M_C_reach := ⟨wd_325, by decide +kernel⟩
def M_Q_raiseDurable : qM := (⟨"RedoQuorum", "raiseDurable", "()V"⟩, prog_1_method_34_code, 1, none)
theorem cd_Q_raiseDurable : q_code M_Q_raiseDurable 0 := ⟨⟨wd_330, by decide +kernel⟩, ⟨wd_1, by decide +kernel⟩, ⟨by decide +kernel, by decide +kernel⟩, by decide +kernel⟩
theorem in_Q_raiseDurable : q_inst M_Q_raiseDurable := ⟨wd_329, by decide +kernel⟩
theorem se_Q_raiseDurable : q_sel M_Q_raiseDurable := ⟨List.mem_of_getElem? (i := 8) rfl, by decide +kernel⟩
def M_Q_completePoint : qM := (⟨"RedoQuorum", "completePoint", "()I"⟩, prog_1_method_33_code, 5, some .int)
theorem cd_Q_completePoint : q_code M_Q_completePoint 0 := ⟨⟨wd_334, by decide +kernel⟩, ⟨wd_1, by decide +kernel⟩, ⟨by decide +kernel, by decide +kernel⟩, by decide +kernel⟩
theorem in_Q_completePoint : q_inst M_Q_completePoint := ⟨wd_333, by decide +kernel⟩
theorem se_Q_completePoint : q_sel M_Q_completePoint := ⟨List.mem_of_getElem? (i := 9) rfl, by decide +kernel⟩
def M_G_quorumPoint : qM := (⟨"RedoQuorum$Group", "quorumPoint", "()I"⟩, prog_3_method_5_code, 4, some .int)
theorem cd_G_quorumPoint : q_code M_G_quorumPoint 0 := ⟨⟨wd_338, by decide +kernel⟩, ⟨wd_4, by decide +kernel⟩, ⟨by decide +kernel, by decide +kernel⟩, by decide +kernel⟩
theorem in_G_quorumPoint : q_inst M_G_quorumPoint := ⟨wd_336, by decide +kernel⟩
theorem se_G_quorumPoint : q_sel M_G_quorumPoint := ⟨wd_337, by decide +kernel⟩
def M_G_copiesThatReported : qM := (⟨"RedoQuorum$Group", "copiesThatReported", "(I)I"⟩, prog_3_method_6_code, 4, some .int)
theorem cd_G_copiesThatReported : q_code M_G_copiesThatReported 1 := ⟨⟨wd_342, by decide +kernel⟩, ⟨wd_4, by decide +kernel⟩, ⟨by decide +kernel, by decide +kernel⟩, by decide +kernel⟩
theorem in_G_copiesThatReported : q_inst M_G_copiesThatReported := ⟨wd_341, by decide +kernel⟩
theorem se_G_copiesThatReported : q_sel M_G_copiesThatReported := ⟨List.mem_of_getElem? (i := 10) rfl, by decide +kernel⟩
def M_L_lastCloseUpTo : qM := (⟨"RedoQuorum$Log", "lastCloseUpTo", "(I)I"⟩, prog_4_method_10_code, 3, some .int)
theorem cd_L_lastCloseUpTo : q_code M_L_lastCloseUpTo 1 := ⟨⟨wd_346, by decide +kernel⟩, ⟨wd_2, by decide +kernel⟩, ⟨by decide +kernel, by decide +kernel⟩, by decide +kernel⟩
theorem in_L_lastCloseUpTo : q_inst M_L_lastCloseUpTo := ⟨wd_344, by decide +kernel⟩
theorem se_L_lastCloseUpTo : q_sel M_L_lastCloseUpTo := ⟨wd_345, by decide +kernel⟩
def M_Q_gossip : qM := (⟨"RedoQuorum", "gossip", "(III)I"⟩, prog_1_method_10_code, 6, some .int)
theorem cd_Q_gossip : q_code M_Q_gossip 3 := ⟨⟨wd_351, by decide +kernel⟩, ⟨wd_1, by decide +kernel⟩, ⟨by decide +kernel, by decide +kernel⟩, by decide +kernel⟩
theorem in_Q_gossip : q_inst M_Q_gossip := ⟨wd_349, by decide +kernel⟩
theorem se_Q_gossip : q_sel M_Q_gossip := ⟨wd_350, by decide +kernel⟩
def M_Q_isCopy : qM := (⟨"RedoQuorum", "isCopy", "(II)Z"⟩, prog_1_method_22_code, 2, some .boolean)
theorem cd_Q_isCopy : q_code M_Q_isCopy 2 := ⟨⟨wd_354, by decide +kernel⟩, ⟨wd_1, by decide +kernel⟩, ⟨by decide +kernel, by decide +kernel⟩, by decide +kernel⟩
theorem st_Q_isCopy : q_stat M_Q_isCopy := ⟨wd_353, by decide +kernel⟩
def M_C_takeAllOf : qM := (⟨"RedoQuorum$StorageCopy", "takeAllOf", "(LRedoQuorum$StorageCopy;)I"⟩, prog_5_method_6_code, 4, some .int)
theorem cd_C_takeAllOf : q_code M_C_takeAllOf 1 := ⟨⟨wd_358, by decide +kernel⟩, ⟨wd_5, by decide +kernel⟩, ⟨by decide +kernel, by decide +kernel⟩, by decide +kernel⟩
theorem in_C_takeAllOf : q_inst M_C_takeAllOf := ⟨wd_356, by decide +kernel⟩
theorem se_C_takeAllOf : q_sel M_C_takeAllOf := ⟨wd_357, by decide +kernel⟩
def M_Q_report : qM := (⟨"RedoQuorum", "report", "(II)I"⟩, prog_1_method_11_code, 5, some .int)
theorem cd_Q_report : q_code M_Q_report 2 := ⟨⟨wd_364, by decide +kernel⟩, ⟨wd_1, by decide +kernel⟩, ⟨by decide +kernel, by decide +kernel⟩, by decide +kernel⟩
theorem in_Q_report : q_inst M_Q_report := ⟨wd_362, by decide +kernel⟩
theorem se_Q_report : q_sel M_Q_report := ⟨wd_363, by decide +kernel⟩
def M_Q_refusalOfCopy : qM := (⟨"RedoQuorum", "refusalOfCopy", "(II)I"⟩, prog_1_method_29_code, 3, some .int)
theorem cd_Q_refusalOfCopy : q_code M_Q_refusalOfCopy 2 := ⟨⟨wd_368, by decide +kernel⟩, ⟨wd_1, by decide +kernel⟩, ⟨by decide +kernel, by decide +kernel⟩, by decide +kernel⟩
theorem in_Q_refusalOfCopy : q_inst M_Q_refusalOfCopy := ⟨wd_367, by decide +kernel⟩
theorem se_Q_refusalOfCopy : q_sel M_Q_refusalOfCopy := ⟨List.mem_of_getElem? (i := 11) rfl, by decide +kernel⟩
def M_Q_fault : qM := (⟨"RedoQuorum", "fault", "(III)Z"⟩, prog_1_method_12_code, 5, some .boolean)
theorem cd_Q_fault : q_code M_Q_fault 3 := ⟨⟨wd_372, by decide +kernel⟩, ⟨wd_1, by decide +kernel⟩, ⟨by decide +kernel, by decide +kernel⟩, by decide +kernel⟩
theorem in_Q_fault : q_inst M_Q_fault := ⟨wd_370, by decide +kernel⟩
theorem se_Q_fault : q_sel M_Q_fault := ⟨wd_371, by decide +kernel⟩
def M_C_change : qM := (⟨"RedoQuorum$StorageCopy", "change", "(II)Z"⟩, prog_5_method_3_code, 3, some .boolean)
theorem cd_C_change : q_code M_C_change 2 := ⟨⟨wd_376, by decide +kernel⟩, ⟨wd_5, by decide +kernel⟩, ⟨by decide +kernel, by decide +kernel⟩, by decide +kernel⟩
theorem in_C_change : q_inst M_C_change := ⟨wd_374, by decide +kernel⟩
theorem se_C_change : q_sel M_C_change := ⟨wd_375, by decide +kernel⟩
def M_C_lose : qM := (⟨"RedoQuorum$StorageCopy", "lose", "()Z"⟩, prog_5_method_4_code, 1, some .boolean)
theorem cd_C_lose : q_code M_C_lose 0 := ⟨⟨wd_380, by decide +kernel⟩, ⟨wd_5, by decide +kernel⟩, ⟨by decide +kernel, by decide +kernel⟩, by decide +kernel⟩
theorem in_C_lose : q_inst M_C_lose := ⟨wd_378, by decide +kernel⟩
theorem se_C_lose : q_sel M_C_lose := ⟨wd_379, by decide +kernel⟩
def M_C_dropAfter : qM := (⟨"RedoQuorum$StorageCopy", "dropAfter", "(I)V"⟩, prog_5_method_7_code, 3, none)
theorem cd_C_dropAfter : q_code M_C_dropAfter 1 := ⟨⟨wd_384, by decide +kernel⟩, ⟨wd_5, by decide +kernel⟩, ⟨by decide +kernel, by decide +kernel⟩, by decide +kernel⟩
theorem in_C_dropAfter : q_inst M_C_dropAfter := ⟨wd_382, by decide +kernel⟩
theorem se_C_dropAfter : q_sel M_C_dropAfter := ⟨wd_383, by decide +kernel⟩
def M_G_repair : qM := (⟨"RedoQuorum$Group", "repair", "(LRedoQuorum$StorageCopy;)Z"⟩, prog_3_method_7_code, 3, some .boolean)
theorem cd_G_repair : q_code M_G_repair 1 := ⟨⟨wd_388, by decide +kernel⟩, ⟨wd_4, by decide +kernel⟩, ⟨by decide +kernel, by decide +kernel⟩, by decide +kernel⟩
theorem in_G_repair : q_inst M_G_repair := ⟨wd_386, by decide +kernel⟩
theorem se_G_repair : q_sel M_G_repair := ⟨wd_387, by decide +kernel⟩
def M_G_liveCopies : qM := (⟨"RedoQuorum$Group", "liveCopies", "()I"⟩, prog_3_method_2_code, 3, some .int)
theorem cd_G_liveCopies : q_code M_G_liveCopies 0 := ⟨⟨wd_392, by decide +kernel⟩, ⟨wd_4, by decide +kernel⟩, ⟨by decide +kernel, by decide +kernel⟩, by decide +kernel⟩
theorem in_G_liveCopies : q_inst M_G_liveCopies := ⟨wd_390, by decide +kernel⟩
theorem se_G_liveCopies : q_sel M_G_liveCopies := ⟨wd_391, by decide +kernel⟩
def M_Q_crash : qM := (⟨"RedoQuorum", "crash", "()Z"⟩, prog_1_method_13_code, 2, some .boolean)
theorem cd_Q_crash : q_code M_Q_crash 0 := ⟨⟨wd_397, by decide +kernel⟩, ⟨wd_1, by decide +kernel⟩, ⟨by decide +kernel, by decide +kernel⟩, by decide +kernel⟩
theorem in_Q_crash : q_inst M_Q_crash := ⟨wd_395, by decide +kernel⟩
theorem se_Q_crash : q_sel M_Q_crash := ⟨wd_396, by decide +kernel⟩
def M_H_clear : qM := (⟨"RedoQuorum$Cache", "clear", "()V"⟩, prog_2_method_6_code, 1, none)
theorem cd_H_clear : q_code M_H_clear 0 := ⟨⟨wd_401, by decide +kernel⟩, ⟨wd_6, by decide +kernel⟩, ⟨by decide +kernel, by decide +kernel⟩, by decide +kernel⟩
theorem in_H_clear : q_inst M_H_clear := ⟨wd_399, by decide +kernel⟩
theorem se_H_clear : q_sel M_H_clear := ⟨wd_400, by decide +kernel⟩
def M_G_forgetReports : qM := (⟨"RedoQuorum$Group", "forgetReports", "()V"⟩, prog_3_method_9_code, 2, none)
theorem cd_G_forgetReports : q_code M_G_forgetReports 0 := ⟨⟨wd_405, by decide +kernel⟩, ⟨wd_4, by decide +kernel⟩, ⟨by decide +kernel, by decide +kernel⟩, by decide +kernel⟩
theorem in_G_forgetReports : q_inst M_G_forgetReports := ⟨wd_403, by decide +kernel⟩
theorem se_G_forgetReports : q_sel M_G_forgetReports := ⟨wd_404, by decide +kernel⟩
def M_Q_recover : qM := (⟨"RedoQuorum", "recover", "()I"⟩, prog_1_method_14_code, 3, some .int)
theorem cd_Q_recover : q_code M_Q_recover 0 := ⟨⟨wd_409, by decide +kernel⟩, ⟨wd_1, by decide +kernel⟩, ⟨by decide +kernel, by decide +kernel⟩, by decide +kernel⟩
theorem in_Q_recover : q_inst M_Q_recover := ⟨wd_407, by decide +kernel⟩
theorem se_Q_recover : q_sel M_Q_recover := ⟨wd_408, by decide +kernel⟩
def M_Q_reachOfLiveCopies : qM := (⟨"RedoQuorum", "reachOfLiveCopies", "()I"⟩, prog_1_method_35_code, 3, some .int)
theorem cd_Q_reachOfLiveCopies : q_code M_Q_reachOfLiveCopies 0 := ⟨⟨wd_414, by decide +kernel⟩, ⟨wd_1, by decide +kernel⟩, ⟨by decide +kernel, by decide +kernel⟩, by decide +kernel⟩
theorem in_Q_reachOfLiveCopies : q_inst M_Q_reachOfLiveCopies := ⟨wd_413, by decide +kernel⟩
theorem se_Q_reachOfLiveCopies : q_sel M_Q_reachOfLiveCopies := ⟨List.mem_of_getElem? (i := 12) rfl, by decide +kernel⟩
def M_G_liveCopyHolds : qM := (⟨"RedoQuorum$Group", "liveCopyHolds", "(I)Z"⟩, prog_3_method_3_code, 3, some .boolean)
theorem cd_G_liveCopyHolds : q_code M_G_liveCopyHolds 1 := ⟨⟨wd_418, by decide +kernel⟩, ⟨wd_4, by decide +kernel⟩, ⟨by decide +kernel, by decide +kernel⟩, by decide +kernel⟩
theorem in_G_liveCopyHolds : q_inst M_G_liveCopyHolds := ⟨wd_416, by decide +kernel⟩
theorem se_G_liveCopyHolds : q_sel M_G_liveCopyHolds := ⟨wd_417, by decide +kernel⟩
def M_G_dropAfter : qM := (⟨"RedoQuorum$Group", "dropAfter", "(I)V"⟩, prog_3_method_8_code, 3, none)
theorem cd_G_dropAfter : q_code M_G_dropAfter 1 := ⟨⟨wd_422, by decide +kernel⟩, ⟨wd_4, by decide +kernel⟩, ⟨by decide +kernel, by decide +kernel⟩, by decide +kernel⟩
theorem in_G_dropAfter : q_inst M_G_dropAfter := ⟨wd_420, by decide +kernel⟩
theorem se_G_dropAfter : q_sel M_G_dropAfter := ⟨wd_421, by decide +kernel⟩
def M_L_cutAfter : qM := (⟨"RedoQuorum$Log", "cutAfter", "(I)V"⟩, prog_4_method_7_code, 3, none)
theorem cd_L_cutAfter : q_code M_L_cutAfter 1 := ⟨⟨wd_427, by decide +kernel⟩, ⟨wd_2, by decide +kernel⟩, ⟨by decide +kernel, by decide +kernel⟩, by decide +kernel⟩
theorem in_L_cutAfter : q_inst M_L_cutAfter := ⟨wd_425, by decide +kernel⟩
theorem se_L_cutAfter : q_sel M_L_cutAfter := ⟨wd_426, by decide +kernel⟩
def M_G_tellReaches : qM := (⟨"RedoQuorum$Group", "tellReaches", "(LRedoQuorum$Log;)V"⟩, prog_3_method_10_code, 3, none)
theorem cd_G_tellReaches : q_code M_G_tellReaches 1 := ⟨⟨wd_434, by decide +kernel⟩, ⟨wd_4, by decide +kernel⟩, ⟨by decide +kernel, by decide +kernel⟩, by decide +kernel⟩
theorem in_G_tellReaches : q_inst M_G_tellReaches := ⟨wd_432, by decide +kernel⟩
theorem se_G_tellReaches : q_sel M_G_tellReaches := ⟨wd_433, by decide +kernel⟩
def M_T_finishAll : qM := (⟨"RedoQuorum$Transactions", "finishAll", "()V"⟩, prog_6_method_8_code, 2, none)
theorem cd_T_finishAll : q_code M_T_finishAll 0 := ⟨⟨wd_439, by decide +kernel⟩, ⟨wd_3, by decide +kernel⟩, ⟨by decide +kernel, by decide +kernel⟩, by decide +kernel⟩
theorem in_T_finishAll : q_inst M_T_finishAll := ⟨wd_437, by decide +kernel⟩
theorem se_T_finishAll : q_sel M_T_finishAll := ⟨wd_438, by decide +kernel⟩
def M_Q_rollBackUnended : qM := (⟨"RedoQuorum", "rollBackUnended", "()V"⟩, prog_1_method_36_code, 2, none)
theorem cd_Q_rollBackUnended : q_code M_Q_rollBackUnended 0 := ⟨⟨wd_444, by decide +kernel⟩, ⟨wd_1, by decide +kernel⟩, ⟨by decide +kernel, by decide +kernel⟩, by decide +kernel⟩
theorem in_Q_rollBackUnended : q_inst M_Q_rollBackUnended := ⟨wd_443, by decide +kernel⟩
theorem se_Q_rollBackUnended : q_sel M_Q_rollBackUnended := ⟨List.mem_of_getElem? (i := 13) rfl, by decide +kernel⟩
def M_L_hasChangeOf : qM := (⟨"RedoQuorum$Log", "hasChangeOf", "(I)Z"⟩, prog_4_method_15_code, 3, some .boolean)
theorem cd_L_hasChangeOf : q_code M_L_hasChangeOf 1 := ⟨⟨wd_448, by decide +kernel⟩, ⟨wd_2, by decide +kernel⟩, ⟨by decide +kernel, by decide +kernel⟩, by decide +kernel⟩
theorem in_L_hasChangeOf : q_inst M_L_hasChangeOf := ⟨wd_446, by decide +kernel⟩
theorem se_L_hasChangeOf : q_sel M_L_hasChangeOf := ⟨wd_447, by decide +kernel⟩
def M_Q_point : qM := (⟨"RedoQuorum", "point", "(I)I"⟩, prog_1_method_15_code, 2, some .int)
theorem cd_Q_point : q_code M_Q_point 1 := ⟨⟨wd_452, by decide +kernel⟩, ⟨wd_1, by decide +kernel⟩, ⟨by decide +kernel, by decide +kernel⟩, by decide +kernel⟩
theorem in_Q_point : q_inst M_Q_point := ⟨wd_450, by decide +kernel⟩
theorem se_Q_point : q_sel M_Q_point := ⟨wd_451, by decide +kernel⟩
def M_Q_copy : qM := (⟨"RedoQuorum", "copy", "(III)I"⟩, prog_1_method_16_code, 5, some .int)
theorem cd_Q_copy : q_code M_Q_copy 3 := ⟨⟨wd_456, by decide +kernel⟩, ⟨wd_1, by decide +kernel⟩, ⟨by decide +kernel, by decide +kernel⟩, by decide +kernel⟩
theorem in_Q_copy : q_inst M_Q_copy := ⟨wd_454, by decide +kernel⟩
theorem se_Q_copy : q_sel M_Q_copy := ⟨wd_455, by decide +kernel⟩
def M_C_keptUpTo : qM := (⟨"RedoQuorum$StorageCopy", "keptUpTo", "(I)I"⟩, prog_5_method_11_code, 4, some .int)
theorem cd_C_keptUpTo : q_code M_C_keptUpTo 1 := ⟨⟨wd_461, by decide +kernel⟩, ⟨wd_5, by decide +kernel⟩, ⟨by decide +kernel, by decide +kernel⟩, by decide +kernel⟩
theorem in_C_keptUpTo : q_inst M_C_keptUpTo := ⟨wd_459, by decide +kernel⟩
theorem se_C_keptUpTo : q_sel M_C_keptUpTo := ⟨wd_460, by decide +kernel⟩
def M_Q_follow : qM := (⟨"RedoQuorum", "follow", "(I)I"⟩, prog_1_method_17_code, 2, some .int)
theorem cd_Q_follow : q_code M_Q_follow 1 := ⟨⟨wd_465, by decide +kernel⟩, ⟨wd_1, by decide +kernel⟩, ⟨by decide +kernel, by decide +kernel⟩, by decide +kernel⟩
theorem in_Q_follow : q_inst M_Q_follow := ⟨wd_463, by decide +kernel⟩
theorem se_Q_follow : q_sel M_Q_follow := ⟨wd_464, by decide +kernel⟩
def M_Q_isReplica : qM := (⟨"RedoQuorum", "isReplica", "(I)Z"⟩, prog_1_method_23_code, 1, some .boolean)
theorem cd_Q_isReplica : q_code M_Q_isReplica 1 := ⟨⟨wd_468, by decide +kernel⟩, ⟨wd_1, by decide +kernel⟩, ⟨by decide +kernel, by decide +kernel⟩, by decide +kernel⟩
theorem st_Q_isReplica : q_stat M_Q_isReplica := ⟨wd_467, by decide +kernel⟩
def M_Q_view : qM := (⟨"RedoQuorum", "view", "(II)I"⟩, prog_1_method_18_code, 3, some .int)
theorem cd_Q_view : q_code M_Q_view 2 := ⟨⟨wd_472, by decide +kernel⟩, ⟨wd_1, by decide +kernel⟩, ⟨by decide +kernel, by decide +kernel⟩, by decide +kernel⟩
theorem in_Q_view : q_inst M_Q_view := ⟨wd_470, by decide +kernel⟩
theorem se_Q_view : q_sel M_Q_view := ⟨wd_471, by decide +kernel⟩
def M_L_endedValueUpTo : qM := (⟨"RedoQuorum$Log", "endedValueUpTo", "(II)I"⟩, prog_4_method_12_code, 4, some .int)
theorem cd_L_endedValueUpTo : q_code M_L_endedValueUpTo 2 := ⟨⟨wd_476, by decide +kernel⟩, ⟨wd_2, by decide +kernel⟩, ⟨by decide +kernel, by decide +kernel⟩, by decide +kernel⟩
theorem in_L_endedValueUpTo : q_inst M_L_endedValueUpTo := ⟨wd_474, by decide +kernel⟩
theorem se_L_endedValueUpTo : q_sel M_L_endedValueUpTo := ⟨wd_475, by decide +kernel⟩
def M_L_isEndedBy : qM := (⟨"RedoQuorum$Log", "isEndedBy", "(II)Z"⟩, prog_4_method_14_code, 3, some .boolean)
theorem cd_L_isEndedBy : q_code M_L_isEndedBy 2 := ⟨⟨wd_480, by decide +kernel⟩, ⟨wd_2, by decide +kernel⟩, ⟨by decide +kernel, by decide +kernel⟩, by decide +kernel⟩
theorem in_L_isEndedBy : q_inst M_L_isEndedBy := ⟨wd_478, by decide +kernel⟩
theorem se_L_isEndedBy : q_sel M_L_isEndedBy := ⟨wd_479, by decide +kernel⟩
def M_Q_collect : qM := (⟨"RedoQuorum", "collect", "(II)I"⟩, prog_1_method_19_code, 7, some .int)
theorem cd_Q_collect : q_code M_Q_collect 2 := ⟨⟨wd_484, by decide +kernel⟩, ⟨wd_1, by decide +kernel⟩, ⟨by decide +kernel, by decide +kernel⟩, by decide +kernel⟩
theorem in_Q_collect : q_inst M_Q_collect := ⟨wd_482, by decide +kernel⟩
theorem se_Q_collect : q_sel M_Q_collect := ⟨wd_483, by decide +kernel⟩
def M_L_lowOf : qM := (⟨"RedoQuorum$Log", "lowOf", "(I)I"⟩, prog_4_method_17_code, 3, some .int)
theorem cd_L_lowOf : q_code M_L_lowOf 1 := ⟨⟨wd_488, by decide +kernel⟩, ⟨wd_2, by decide +kernel⟩, ⟨by decide +kernel, by decide +kernel⟩, by decide +kernel⟩
theorem in_L_lowOf : q_inst M_L_lowOf := ⟨wd_486, by decide +kernel⟩
theorem se_L_lowOf : q_sel M_L_lowOf := ⟨wd_487, by decide +kernel⟩
def M_C_foldUpTo : qM := (⟨"RedoQuorum$StorageCopy", "foldUpTo", "(I)I"⟩, prog_5_method_12_code, 3, some .int)
theorem cd_C_foldUpTo : q_code M_C_foldUpTo 1 := ⟨⟨wd_493, by decide +kernel⟩, ⟨wd_5, by decide +kernel⟩, ⟨by decide +kernel, by decide +kernel⟩, by decide +kernel⟩
theorem in_C_foldUpTo : q_inst M_C_foldUpTo := ⟨wd_491, by decide +kernel⟩
theorem se_C_foldUpTo : q_sel M_C_foldUpTo := ⟨wd_492, by decide +kernel⟩
def M_Q_cached : qM := (⟨"RedoQuorum", "cached", "(I)I"⟩, prog_1_method_20_code, 2, some .int)
theorem cd_Q_cached : q_code M_Q_cached 1 := ⟨⟨wd_498, by decide +kernel⟩, ⟨wd_1, by decide +kernel⟩, ⟨by decide +kernel, by decide +kernel⟩, by decide +kernel⟩
theorem in_Q_cached : q_inst M_Q_cached := ⟨wd_496, by decide +kernel⟩
theorem se_Q_cached : q_sel M_Q_cached := ⟨wd_497, by decide +kernel⟩
def M_M_init : qM := (⟨"RedoQuorumModel", "<init>", "()V"⟩, prog_8_method_1_code, 1, none)
theorem cd_M_init : q_code M_M_init 0 := ⟨⟨wd_503, by decide +kernel⟩, ⟨wd_7, by decide +kernel⟩, ⟨by decide +kernel, by decide +kernel⟩, by decide +kernel⟩
theorem in_M_init : q_inst M_M_init := ⟨wd_502, by decide +kernel⟩
def M_M_cached : qM := (⟨"RedoQuorumModel", "cached", "(I)I"⟩, prog_8_method_25_code, 3, some .int)
theorem cd_M_cached : q_code M_M_cached 1 := ⟨⟨wd_563, by decide +kernel⟩, ⟨wd_7, by decide +kernel⟩, ⟨by decide +kernel, by decide +kernel⟩, by decide +kernel⟩
theorem in_M_cached : q_inst M_M_cached := ⟨wd_561, by decide +kernel⟩
theorem se_M_cached : q_sel M_M_cached := ⟨wd_562, by decide +kernel⟩
def M_M_placeOf : qM := (⟨"RedoQuorumModel", "placeOf", "(I)I"⟩, prog_8_method_21_code, 3, some .int)
theorem cd_M_placeOf : q_code M_M_placeOf 1 := ⟨⟨wd_567, by decide +kernel⟩, ⟨wd_7, by decide +kernel⟩, ⟨by decide +kernel, by decide +kernel⟩, by decide +kernel⟩
theorem in_M_placeOf : q_inst M_M_placeOf := ⟨wd_566, by decide +kernel⟩
theorem se_M_placeOf : q_sel M_M_placeOf := ⟨List.mem_of_getElem? (i := 14) rfl, by decide +kernel⟩
def M_M_begin : qM := (⟨"RedoQuorumModel", "begin", "()I"⟩, prog_8_method_26_code, 3, some .int)
theorem cd_M_begin : q_code M_M_begin 0 := ⟨⟨wd_571, by decide +kernel⟩, ⟨wd_7, by decide +kernel⟩, ⟨by decide +kernel, by decide +kernel⟩, by decide +kernel⟩
theorem in_M_begin : q_inst M_M_begin := ⟨wd_569, by decide +kernel⟩
theorem se_M_begin : q_sel M_M_begin := ⟨wd_570, by decide +kernel⟩
def M_M_read : qM := (⟨"RedoQuorumModel", "read", "(II)I"⟩, prog_8_method_28_code, 4, some .int)
theorem cd_M_read : q_code M_M_read 2 := ⟨⟨wd_575, by decide +kernel⟩, ⟨wd_7, by decide +kernel⟩, ⟨by decide +kernel, by decide +kernel⟩, by decide +kernel⟩
theorem in_M_read : q_inst M_M_read := ⟨wd_573, by decide +kernel⟩
theorem se_M_read : q_sel M_M_read := ⟨wd_574, by decide +kernel⟩
def M_M_isKey : qM := (⟨"RedoQuorumModel", "isKey", "(I)Z"⟩, prog_8_method_2_code, 1, some .boolean)
theorem cd_M_isKey : q_code M_M_isKey 1 := ⟨⟨wd_578, by decide +kernel⟩, ⟨wd_7, by decide +kernel⟩, ⟨by decide +kernel, by decide +kernel⟩, by decide +kernel⟩
theorem st_M_isKey : q_stat M_M_isKey := ⟨wd_577, by decide +kernel⟩
def M_M_isActive : qM := (⟨"RedoQuorumModel", "isActive", "(I)Z"⟩, prog_8_method_5_code, 2, some .boolean)
theorem cd_M_isActive : q_code M_M_isActive 1 := ⟨⟨wd_582, by decide +kernel⟩, ⟨wd_7, by decide +kernel⟩, ⟨by decide +kernel, by decide +kernel⟩, by decide +kernel⟩
theorem in_M_isActive : q_inst M_M_isActive := ⟨wd_581, by decide +kernel⟩
theorem se_M_isActive : q_sel M_M_isActive := ⟨List.mem_of_getElem? (i := 15) rfl, by decide +kernel⟩
def M_M_locked : qM := (⟨"RedoQuorumModel", "locked", "(II)Z"⟩, prog_8_method_27_code, 3, some .boolean)
theorem cd_M_locked : q_code M_M_locked 2 := ⟨⟨wd_586, by decide +kernel⟩, ⟨wd_7, by decide +kernel⟩, ⟨by decide +kernel, by decide +kernel⟩, by decide +kernel⟩
theorem in_M_locked : q_inst M_M_locked := ⟨wd_585, by decide +kernel⟩
theorem se_M_locked : q_sel M_M_locked := ⟨List.mem_of_getElem? (i := 16) rfl, by decide +kernel⟩
def M_M_touch : qM := (⟨"RedoQuorumModel", "touch", "(II)I"⟩, prog_8_method_24_code, 5, some .int)
theorem cd_M_touch : q_code M_M_touch 2 := ⟨⟨wd_590, by decide +kernel⟩, ⟨wd_7, by decide +kernel⟩, ⟨by decide +kernel, by decide +kernel⟩, by decide +kernel⟩
theorem in_M_touch : q_inst M_M_touch := ⟨wd_589, by decide +kernel⟩
theorem se_M_touch : q_sel M_M_touch := ⟨List.mem_of_getElem? (i := 17) rfl, by decide +kernel⟩
def M_M_goes : qM := (⟨"RedoQuorumModel", "goes", "(I)I"⟩, prog_8_method_23_code, 3, some .int)
theorem cd_M_goes : q_code M_M_goes 1 := ⟨⟨wd_594, by decide +kernel⟩, ⟨wd_7, by decide +kernel⟩, ⟨by decide +kernel, by decide +kernel⟩, by decide +kernel⟩
theorem in_M_goes : q_inst M_M_goes := ⟨wd_593, by decide +kernel⟩
theorem se_M_goes : q_sel M_M_goes := ⟨List.mem_of_getElem? (i := 18) rfl, by decide +kernel⟩
def M_M_latest : qM := (⟨"RedoQuorumModel", "latest", "(I)I"⟩, prog_8_method_8_code, 5, some .int)
theorem cd_M_latest : q_code M_M_latest 1 := ⟨⟨wd_598, by decide +kernel⟩, ⟨wd_7, by decide +kernel⟩, ⟨by decide +kernel, by decide +kernel⟩, by decide +kernel⟩
theorem in_M_latest : q_inst M_M_latest := ⟨wd_597, by decide +kernel⟩
theorem se_M_latest : q_sel M_M_latest := ⟨List.mem_of_getElem? (i := 19) rfl, by decide +kernel⟩
def M_M_changeUpTo : qM := (⟨"RedoQuorumModel", "changeUpTo", "(II)I"⟩, prog_8_method_6_code, 5, some .int)
theorem cd_M_changeUpTo : q_code M_M_changeUpTo 2 := ⟨⟨wd_602, by decide +kernel⟩, ⟨wd_7, by decide +kernel⟩, ⟨by decide +kernel, by decide +kernel⟩, by decide +kernel⟩
theorem in_M_changeUpTo : q_inst M_M_changeUpTo := ⟨wd_601, by decide +kernel⟩
theorem se_M_changeUpTo : q_sel M_M_changeUpTo := ⟨List.mem_of_getElem? (i := 20) rfl, by decide +kernel⟩
def M_M_served : qM := (⟨"RedoQuorumModel", "served", "(II)Z"⟩, prog_8_method_20_code, 6, some .boolean)
theorem cd_M_served : q_code M_M_served 2 := ⟨⟨wd_606, by decide +kernel⟩, ⟨wd_7, by decide +kernel⟩, ⟨by decide +kernel, by decide +kernel⟩, by decide +kernel⟩
theorem in_M_served : q_inst M_M_served := ⟨wd_605, by decide +kernel⟩
theorem se_M_served : q_sel M_M_served := ⟨List.mem_of_getElem? (i := 21) rfl, by decide +kernel⟩
def M_M_groupOf : qM := (⟨"RedoQuorumModel", "groupOf", "(I)I"⟩, prog_8_method_4_code, 2, some .int)
theorem cd_M_groupOf : q_code M_M_groupOf 1 := ⟨⟨wd_610, by decide +kernel⟩, ⟨wd_7, by decide +kernel⟩, ⟨by decide +kernel, by decide +kernel⟩, by decide +kernel⟩
theorem in_M_groupOf : q_inst M_M_groupOf := ⟨wd_609, by decide +kernel⟩
theorem se_M_groupOf : q_sel M_M_groupOf := ⟨List.mem_of_getElem? (i := 22) rfl, by decide +kernel⟩
def M_M_drop : qM := (⟨"RedoQuorumModel", "drop", "(I)V"⟩, prog_8_method_22_code, 3, none)
theorem cd_M_drop : q_code M_M_drop 1 := ⟨⟨wd_614, by decide +kernel⟩, ⟨wd_7, by decide +kernel⟩, ⟨by decide +kernel, by decide +kernel⟩, by decide +kernel⟩
theorem in_M_drop : q_inst M_M_drop := ⟨wd_613, by decide +kernel⟩
theorem se_M_drop : q_sel M_M_drop := ⟨List.mem_of_getElem? (i := 23) rfl, by decide +kernel⟩
def M_M_valueUpTo : qM := (⟨"RedoQuorumModel", "valueUpTo", "(II)I"⟩, prog_8_method_7_code, 4, some .int)
theorem cd_M_valueUpTo : q_code M_M_valueUpTo 2 := ⟨⟨wd_618, by decide +kernel⟩, ⟨wd_7, by decide +kernel⟩, ⟨by decide +kernel, by decide +kernel⟩, by decide +kernel⟩
theorem in_M_valueUpTo : q_inst M_M_valueUpTo := ⟨wd_617, by decide +kernel⟩
theorem se_M_valueUpTo : q_sel M_M_valueUpTo := ⟨List.mem_of_getElem? (i := 24) rfl, by decide +kernel⟩
def M_M_write : qM := (⟨"RedoQuorumModel", "write", "(III)I"⟩, prog_8_method_29_code, 5, some .int)
theorem cd_M_write : q_code M_M_write 3 := ⟨⟨wd_622, by decide +kernel⟩, ⟨wd_7, by decide +kernel⟩, ⟨by decide +kernel, by decide +kernel⟩, by decide +kernel⟩
theorem in_M_write : q_inst M_M_write := ⟨wd_620, by decide +kernel⟩
theorem se_M_write : q_sel M_M_write := ⟨wd_621, by decide +kernel⟩
def M_M_add : qM := (⟨"RedoQuorumModel", "add", "(IIIIZ)I"⟩, prog_8_method_9_code, 7, some .int)
theorem cd_M_add : q_code M_M_add 5 := ⟨⟨wd_626, by decide +kernel⟩, ⟨wd_7, by decide +kernel⟩, ⟨by decide +kernel, by decide +kernel⟩, by decide +kernel⟩
theorem in_M_add : q_inst M_M_add := ⟨wd_625, by decide +kernel⟩
theorem se_M_add : q_sel M_M_add := ⟨List.mem_of_getElem? (i := 25) rfl, by decide +kernel⟩
def M_M_shift : qM := (⟨"RedoQuorumModel", "shift", "(IIII)I"⟩, prog_8_method_30_code, 8, some .int)
theorem cd_M_shift : q_code M_M_shift 4 := ⟨⟨wd_630, by decide +kernel⟩, ⟨wd_7, by decide +kernel⟩, ⟨by decide +kernel, by decide +kernel⟩, by decide +kernel⟩
theorem in_M_shift : q_inst M_M_shift := ⟨wd_628, by decide +kernel⟩
theorem se_M_shift : q_sel M_M_shift := ⟨wd_629, by decide +kernel⟩
def M_M_commit : qM := (⟨"RedoQuorumModel", "commit", "(I)I"⟩, prog_8_method_31_code, 2, some .int)
theorem cd_M_commit : q_code M_M_commit 1 := ⟨⟨wd_634, by decide +kernel⟩, ⟨wd_7, by decide +kernel⟩, ⟨by decide +kernel, by decide +kernel⟩, by decide +kernel⟩
theorem in_M_commit : q_inst M_M_commit := ⟨wd_632, by decide +kernel⟩
theorem se_M_commit : q_sel M_M_commit := ⟨wd_633, by decide +kernel⟩
def M_M_finish : qM := (⟨"RedoQuorumModel", "finish", "(II)I"⟩, prog_8_method_10_code, 4, some .int)
theorem cd_M_finish : q_code M_M_finish 2 := ⟨⟨wd_638, by decide +kernel⟩, ⟨wd_7, by decide +kernel⟩, ⟨by decide +kernel, by decide +kernel⟩, by decide +kernel⟩
theorem in_M_finish : q_inst M_M_finish := ⟨wd_637, by decide +kernel⟩
theorem se_M_finish : q_sel M_M_finish := ⟨List.mem_of_getElem? (i := 26) rfl, by decide +kernel⟩
def M_M_abort : qM := (⟨"RedoQuorumModel", "abort", "(I)I"⟩, prog_8_method_32_code, 2, some .int)
theorem cd_M_abort : q_code M_M_abort 1 := ⟨⟨wd_642, by decide +kernel⟩, ⟨wd_7, by decide +kernel⟩, ⟨by decide +kernel, by decide +kernel⟩, by decide +kernel⟩
theorem in_M_abort : q_inst M_M_abort := ⟨wd_640, by decide +kernel⟩
theorem se_M_abort : q_sel M_M_abort := ⟨wd_641, by decide +kernel⟩
def M_M_rollBack : qM := (⟨"RedoQuorumModel", "rollBack", "(I)I"⟩, prog_8_method_12_code, 6, some .int)
theorem cd_M_rollBack : q_code M_M_rollBack 1 := ⟨⟨wd_646, by decide +kernel⟩, ⟨wd_7, by decide +kernel⟩, ⟨by decide +kernel, by decide +kernel⟩, by decide +kernel⟩
theorem in_M_rollBack : q_inst M_M_rollBack := ⟨wd_645, by decide +kernel⟩
theorem se_M_rollBack : q_sel M_M_rollBack := ⟨List.mem_of_getElem? (i := 27) rfl, by decide +kernel⟩
def M_M_firstChange : qM := (⟨"RedoQuorumModel", "firstChange", "(II)I"⟩, prog_8_method_11_code, 4, some .int)
theorem cd_M_firstChange : q_code M_M_firstChange 2 := ⟨⟨wd_650, by decide +kernel⟩, ⟨wd_7, by decide +kernel⟩, ⟨by decide +kernel, by decide +kernel⟩, by decide +kernel⟩
theorem in_M_firstChange : q_inst M_M_firstChange := ⟨wd_649, by decide +kernel⟩
theorem se_M_firstChange : q_sel M_M_firstChange := ⟨List.mem_of_getElem? (i := 28) rfl, by decide +kernel⟩
def M_M_status : qM := (⟨"RedoQuorumModel", "status", "(I)I"⟩, prog_8_method_33_code, 3, some .int)
theorem cd_M_status : q_code M_M_status 1 := ⟨⟨wd_654, by decide +kernel⟩, ⟨wd_7, by decide +kernel⟩, ⟨by decide +kernel, by decide +kernel⟩, by decide +kernel⟩
theorem in_M_status : q_inst M_M_status := ⟨wd_652, by decide +kernel⟩
theorem se_M_status : q_sel M_M_status := ⟨wd_653, by decide +kernel⟩
def M_M_endOf : qM := (⟨"RedoQuorumModel", "endOf", "(II)I"⟩, prog_8_method_13_code, 4, some .int)
theorem cd_M_endOf : q_code M_M_endOf 2 := ⟨⟨wd_658, by decide +kernel⟩, ⟨wd_7, by decide +kernel⟩, ⟨by decide +kernel, by decide +kernel⟩, by decide +kernel⟩
theorem in_M_endOf : q_inst M_M_endOf := ⟨wd_657, by decide +kernel⟩
theorem se_M_endOf : q_sel M_M_endOf := ⟨List.mem_of_getElem? (i := 29) rfl, by decide +kernel⟩
def M_M_deliver : qM := (⟨"RedoQuorumModel", "deliver", "(II)I"⟩, prog_8_method_34_code, 5, some .int)
theorem cd_M_deliver : q_code M_M_deliver 2 := ⟨⟨wd_662, by decide +kernel⟩, ⟨wd_7, by decide +kernel⟩, ⟨by decide +kernel, by decide +kernel⟩, by decide +kernel⟩
theorem in_M_deliver : q_inst M_M_deliver := ⟨wd_660, by decide +kernel⟩
theorem se_M_deliver : q_sel M_M_deliver := ⟨wd_661, by decide +kernel⟩
def M_M_reportPoint : qM := (⟨"RedoQuorumModel", "reportPoint", "(I)V"⟩, prog_8_method_18_code, 2, none)
theorem cd_M_reportPoint : q_code M_M_reportPoint 1 := ⟨⟨wd_666, by decide +kernel⟩, ⟨wd_7, by decide +kernel⟩, ⟨by decide +kernel, by decide +kernel⟩, by decide +kernel⟩
theorem in_M_reportPoint : q_inst M_M_reportPoint := ⟨wd_665, by decide +kernel⟩
theorem se_M_reportPoint : q_sel M_M_reportPoint := ⟨List.mem_of_getElem? (i := 30) rfl, by decide +kernel⟩
def M_M_pointOf : qM := (⟨"RedoQuorumModel", "pointOf", "(I)I"⟩, prog_8_method_14_code, 5, some .int)
theorem cd_M_pointOf : q_code M_M_pointOf 1 := ⟨⟨wd_670, by decide +kernel⟩, ⟨wd_7, by decide +kernel⟩, ⟨by decide +kernel, by decide +kernel⟩, by decide +kernel⟩
theorem in_M_pointOf : q_inst M_M_pointOf := ⟨wd_669, by decide +kernel⟩
theorem se_M_pointOf : q_sel M_M_pointOf := ⟨List.mem_of_getElem? (i := 31) rfl, by decide +kernel⟩
def M_M_advance : qM := (⟨"RedoQuorumModel", "advance", "()V"⟩, prog_8_method_19_code, 2, none)
theorem cd_M_advance : q_code M_M_advance 0 := ⟨⟨wd_674, by decide +kernel⟩, ⟨wd_7, by decide +kernel⟩, ⟨by decide +kernel, by decide +kernel⟩, by decide +kernel⟩
theorem in_M_advance : q_inst M_M_advance := ⟨wd_673, by decide +kernel⟩
theorem se_M_advance : q_sel M_M_advance := ⟨List.mem_of_getElem? (i := 32) rfl, by decide +kernel⟩
def M_M_complete : qM := (⟨"RedoQuorumModel", "complete", "()I"⟩, prog_8_method_16_code, 4, some .int)
theorem cd_M_complete : q_code M_M_complete 0 := ⟨⟨wd_678, by decide +kernel⟩, ⟨wd_7, by decide +kernel⟩, ⟨by decide +kernel, by decide +kernel⟩, by decide +kernel⟩
theorem in_M_complete : q_inst M_M_complete := ⟨wd_677, by decide +kernel⟩
theorem se_M_complete : q_sel M_M_complete := ⟨List.mem_of_getElem? (i := 33) rfl, by decide +kernel⟩
def M_M_groupPoint : qM := (⟨"RedoQuorumModel", "groupPoint", "(I)I"⟩, prog_8_method_15_code, 6, some .int)
theorem cd_M_groupPoint : q_code M_M_groupPoint 1 := ⟨⟨wd_682, by decide +kernel⟩, ⟨wd_7, by decide +kernel⟩, ⟨by decide +kernel, by decide +kernel⟩, by decide +kernel⟩
theorem in_M_groupPoint : q_inst M_M_groupPoint := ⟨wd_681, by decide +kernel⟩
theorem se_M_groupPoint : q_sel M_M_groupPoint := ⟨List.mem_of_getElem? (i := 34) rfl, by decide +kernel⟩
def M_M_closeUpTo : qM := (⟨"RedoQuorumModel", "closeUpTo", "(I)I"⟩, prog_8_method_17_code, 4, some .int)
theorem cd_M_closeUpTo : q_code M_M_closeUpTo 1 := ⟨⟨wd_686, by decide +kernel⟩, ⟨wd_7, by decide +kernel⟩, ⟨by decide +kernel, by decide +kernel⟩, by decide +kernel⟩
theorem in_M_closeUpTo : q_inst M_M_closeUpTo := ⟨wd_685, by decide +kernel⟩
theorem se_M_closeUpTo : q_sel M_M_closeUpTo := ⟨List.mem_of_getElem? (i := 35) rfl, by decide +kernel⟩
def M_M_gossip : qM := (⟨"RedoQuorumModel", "gossip", "(III)I"⟩, prog_8_method_36_code, 4, some .int)
theorem cd_M_gossip : q_code M_M_gossip 3 := ⟨⟨wd_690, by decide +kernel⟩, ⟨wd_7, by decide +kernel⟩, ⟨by decide +kernel, by decide +kernel⟩, by decide +kernel⟩
theorem in_M_gossip : q_inst M_M_gossip := ⟨wd_688, by decide +kernel⟩
theorem se_M_gossip : q_sel M_M_gossip := ⟨wd_689, by decide +kernel⟩
def M_M_isCopy : qM := (⟨"RedoQuorumModel", "isCopy", "(II)Z"⟩, prog_8_method_3_code, 2, some .boolean)
theorem cd_M_isCopy : q_code M_M_isCopy 2 := ⟨⟨wd_693, by decide +kernel⟩, ⟨wd_7, by decide +kernel⟩, ⟨by decide +kernel, by decide +kernel⟩, by decide +kernel⟩
theorem st_M_isCopy : q_stat M_M_isCopy := ⟨wd_692, by decide +kernel⟩
def M_M_join : qM := (⟨"RedoQuorumModel", "join", "(II)I"⟩, prog_8_method_35_code, 5, some .int)
theorem cd_M_join : q_code M_M_join 2 := ⟨⟨wd_697, by decide +kernel⟩, ⟨wd_7, by decide +kernel⟩, ⟨by decide +kernel, by decide +kernel⟩, by decide +kernel⟩
theorem in_M_join : q_inst M_M_join := ⟨wd_696, by decide +kernel⟩
theorem se_M_join : q_sel M_M_join := ⟨List.mem_of_getElem? (i := 36) rfl, by decide +kernel⟩
def M_M_report : qM := (⟨"RedoQuorumModel", "report", "(II)I"⟩, prog_8_method_37_code, 3, some .int)
theorem cd_M_report : q_code M_M_report 2 := ⟨⟨wd_701, by decide +kernel⟩, ⟨wd_7, by decide +kernel⟩, ⟨by decide +kernel, by decide +kernel⟩, by decide +kernel⟩
theorem in_M_report : q_inst M_M_report := ⟨wd_699, by decide +kernel⟩
theorem se_M_report : q_sel M_M_report := ⟨wd_700, by decide +kernel⟩
def M_M_fault : qM := (⟨"RedoQuorumModel", "fault", "(III)Z"⟩, prog_8_method_39_code, 8, some .boolean)
theorem cd_M_fault : q_code M_M_fault 3 := ⟨⟨wd_705, by decide +kernel⟩, ⟨wd_7, by decide +kernel⟩, ⟨by decide +kernel, by decide +kernel⟩, by decide +kernel⟩
theorem in_M_fault : q_inst M_M_fault := ⟨wd_703, by decide +kernel⟩
theorem se_M_fault : q_sel M_M_fault := ⟨wd_704, by decide +kernel⟩
def M_M_live : qM := (⟨"RedoQuorumModel", "live", "(I)I"⟩, prog_8_method_38_code, 4, some .int)
theorem cd_M_live : q_code M_M_live 1 := ⟨⟨wd_709, by decide +kernel⟩, ⟨wd_7, by decide +kernel⟩, ⟨by decide +kernel, by decide +kernel⟩, by decide +kernel⟩
theorem in_M_live : q_inst M_M_live := ⟨wd_708, by decide +kernel⟩
theorem se_M_live : q_sel M_M_live := ⟨List.mem_of_getElem? (i := 37) rfl, by decide +kernel⟩
def M_M_crash : qM := (⟨"RedoQuorumModel", "crash", "()Z"⟩, prog_8_method_40_code, 2, some .boolean)
theorem cd_M_crash : q_code M_M_crash 0 := ⟨⟨wd_713, by decide +kernel⟩, ⟨wd_7, by decide +kernel⟩, ⟨by decide +kernel, by decide +kernel⟩, by decide +kernel⟩
theorem in_M_crash : q_inst M_M_crash := ⟨wd_711, by decide +kernel⟩
theorem se_M_crash : q_sel M_M_crash := ⟨wd_712, by decide +kernel⟩
def M_M_recover : qM := (⟨"RedoQuorumModel", "recover", "()I"⟩, prog_8_method_42_code, 6, some .int)
theorem cd_M_recover : q_code M_M_recover 0 := ⟨⟨wd_717, by decide +kernel⟩, ⟨wd_7, by decide +kernel⟩, ⟨by decide +kernel, by decide +kernel⟩, by decide +kernel⟩
theorem in_M_recover : q_inst M_M_recover := ⟨wd_715, by decide +kernel⟩
theorem se_M_recover : q_sel M_M_recover := ⟨wd_716, by decide +kernel⟩
def M_M_survives : qM := (⟨"RedoQuorumModel", "survives", "(I)Z"⟩, prog_8_method_41_code, 5, some .boolean)
theorem cd_M_survives : q_code M_M_survives 1 := ⟨⟨wd_721, by decide +kernel⟩, ⟨wd_7, by decide +kernel⟩, ⟨by decide +kernel, by decide +kernel⟩, by decide +kernel⟩
theorem in_M_survives : q_inst M_M_survives := ⟨wd_720, by decide +kernel⟩
theorem se_M_survives : q_sel M_M_survives := ⟨List.mem_of_getElem? (i := 38) rfl, by decide +kernel⟩
def M_M_point : qM := (⟨"RedoQuorumModel", "point", "(I)I"⟩, prog_8_method_43_code, 2, some .int)
theorem cd_M_point : q_code M_M_point 1 := ⟨⟨wd_725, by decide +kernel⟩, ⟨wd_7, by decide +kernel⟩, ⟨by decide +kernel, by decide +kernel⟩, by decide +kernel⟩
theorem in_M_point : q_inst M_M_point := ⟨wd_723, by decide +kernel⟩
theorem se_M_point : q_sel M_M_point := ⟨wd_724, by decide +kernel⟩
def M_M_copy : qM := (⟨"RedoQuorumModel", "copy", "(III)I"⟩, prog_8_method_44_code, 7, some .int)
theorem cd_M_copy : q_code M_M_copy 3 := ⟨⟨wd_729, by decide +kernel⟩, ⟨wd_7, by decide +kernel⟩, ⟨by decide +kernel, by decide +kernel⟩, by decide +kernel⟩
theorem in_M_copy : q_inst M_M_copy := ⟨wd_727, by decide +kernel⟩
theorem se_M_copy : q_sel M_M_copy := ⟨wd_728, by decide +kernel⟩
def M_M_follow : qM := (⟨"RedoQuorumModel", "follow", "(I)I"⟩, prog_8_method_45_code, 2, some .int)
theorem cd_M_follow : q_code M_M_follow 1 := ⟨⟨wd_733, by decide +kernel⟩, ⟨wd_7, by decide +kernel⟩, ⟨by decide +kernel, by decide +kernel⟩, by decide +kernel⟩
theorem in_M_follow : q_inst M_M_follow := ⟨wd_731, by decide +kernel⟩
theorem se_M_follow : q_sel M_M_follow := ⟨wd_732, by decide +kernel⟩
def M_M_view : qM := (⟨"RedoQuorumModel", "view", "(II)I"⟩, prog_8_method_46_code, 6, some .int)
theorem cd_M_view : q_code M_M_view 2 := ⟨⟨wd_737, by decide +kernel⟩, ⟨wd_7, by decide +kernel⟩, ⟨by decide +kernel, by decide +kernel⟩, by decide +kernel⟩
theorem in_M_view : q_inst M_M_view := ⟨wd_735, by decide +kernel⟩
theorem se_M_view : q_sel M_M_view := ⟨wd_736, by decide +kernel⟩
def M_M_collect : qM := (⟨"RedoQuorumModel", "collect", "(II)I"⟩, prog_8_method_48_code, 10, some .int)
theorem cd_M_collect : q_code M_M_collect 2 := ⟨⟨wd_741, by decide +kernel⟩, ⟨wd_7, by decide +kernel⟩, ⟨by decide +kernel, by decide +kernel⟩, by decide +kernel⟩
theorem in_M_collect : q_inst M_M_collect := ⟨wd_739, by decide +kernel⟩
theorem se_M_collect : q_sel M_M_collect := ⟨wd_740, by decide +kernel⟩
def M_M_low : qM := (⟨"RedoQuorumModel", "low", "(I)I"⟩, prog_8_method_47_code, 4, some .int)
theorem cd_M_low : q_code M_M_low 1 := ⟨⟨wd_745, by decide +kernel⟩, ⟨wd_7, by decide +kernel⟩, ⟨by decide +kernel, by decide +kernel⟩, by decide +kernel⟩
theorem in_M_low : q_inst M_M_low := ⟨wd_744, by decide +kernel⟩
theorem se_M_low : q_sel M_M_low := ⟨List.mem_of_getElem? (i := 39) rfl, by decide +kernel⟩
theorem mw_Q1 : Cond.methodLink "RedoQuorum" 1 ⟨"java/lang/Object", "<init>", "()V"⟩ ∈ lw_tbl ∧ q_mv (Cond.methodLink "RedoQuorum" 1 ⟨"java/lang/Object", "<init>", "()V"⟩) = true := ⟨wd_14, by decide +kernel⟩
theorem ml_Q9 : q_mlink "RedoQuorum" 9 M_L_init := Or.inr ⟨"RedoQuorum", wd_19⟩
theorem fl_Q10 : q_link "RedoQuorum" 10 "RedoQuorum" "log" "LRedoQuorum$Log;" := Or.inl ⟨wd_127, by decide +kernel⟩
theorem fw_Q10 : Cond.fieldLink "RedoQuorum" 10 "RedoQuorum" "log" "LRedoQuorum$Log;" ∈ lw_tbl ∧ q_mv (Cond.fieldLink "RedoQuorum" 10 "RedoQuorum" "log" "LRedoQuorum$Log;") = true := ⟨wd_127, by decide +kernel⟩
theorem ml_Q18 : q_mlink "RedoQuorum" 18 M_T_init := Or.inr ⟨"RedoQuorum", wd_53⟩
theorem fl_Q19 : q_link "RedoQuorum" 19 "RedoQuorum" "transactions" "LRedoQuorum$Transactions;" := Or.inl ⟨wd_128, by decide +kernel⟩
theorem fw_Q19 : Cond.fieldLink "RedoQuorum" 19 "RedoQuorum" "transactions" "LRedoQuorum$Transactions;" ∈ lw_tbl ∧ q_mv (Cond.fieldLink "RedoQuorum" 19 "RedoQuorum" "transactions" "LRedoQuorum$Transactions;") = true := ⟨wd_128, by decide +kernel⟩
theorem fl_Q25 : q_link "RedoQuorum" 25 "RedoQuorum" "groups" "[LRedoQuorum$Group;" := Or.inl ⟨wd_129, by decide +kernel⟩
theorem fw_Q25 : Cond.fieldLink "RedoQuorum" 25 "RedoQuorum" "groups" "[LRedoQuorum$Group;" ∈ lw_tbl ∧ q_mv (Cond.fieldLink "RedoQuorum" 25 "RedoQuorum" "groups" "[LRedoQuorum$Group;") = true := ⟨wd_129, by decide +kernel⟩
theorem ml_Q29 : q_mlink "RedoQuorum" 29 M_G_init := Or.inl ⟨wd_75, by decide +kernel⟩
theorem ml_Q34 : q_mlink "RedoQuorum" 34 M_H_init := Or.inr ⟨"RedoQuorum", wd_114⟩
theorem fl_Q35 : q_link "RedoQuorum" 35 "RedoQuorum" "cache" "LRedoQuorum$Cache;" := Or.inl ⟨wd_130, by decide +kernel⟩
theorem fw_Q35 : Cond.fieldLink "RedoQuorum" 35 "RedoQuorum" "cache" "LRedoQuorum$Cache;" ∈ lw_tbl ∧ q_mv (Cond.fieldLink "RedoQuorum" 35 "RedoQuorum" "cache" "LRedoQuorum$Cache;") = true := ⟨wd_130, by decide +kernel⟩
theorem fl_Q39 : q_link "RedoQuorum" 39 "RedoQuorum" "views" "[I" := Or.inl ⟨wd_131, by decide +kernel⟩
theorem fw_Q39 : Cond.fieldLink "RedoQuorum" 39 "RedoQuorum" "views" "[I" ∈ lw_tbl ∧ q_mv (Cond.fieldLink "RedoQuorum" 39 "RedoQuorum" "views" "[I") = true := ⟨wd_131, by decide +kernel⟩
theorem fl_Q43 : q_link "RedoQuorum" 43 "RedoQuorum" "up" "Z" := Or.inl ⟨wd_132, by decide +kernel⟩
theorem fw_Q43 : Cond.fieldLink "RedoQuorum" 43 "RedoQuorum" "up" "Z" ∈ lw_tbl ∧ q_mv (Cond.fieldLink "RedoQuorum" 43 "RedoQuorum" "up" "Z") = true := ⟨wd_132, by decide +kernel⟩
theorem fl_Q47 : q_link "RedoQuorum" 47 "RedoQuorum" "durable" "I" := Or.inl ⟨wd_133, by decide +kernel⟩
theorem fw_Q47 : Cond.fieldLink "RedoQuorum" 47 "RedoQuorum" "durable" "I" ∈ lw_tbl ∧ q_mv (Cond.fieldLink "RedoQuorum" 47 "RedoQuorum" "durable" "I") = true := ⟨wd_133, by decide +kernel⟩
theorem ml_Q51 : q_mlink "RedoQuorum" 51 M_T_isFull := Or.inl ⟨wd_153, by decide +kernel⟩
theorem fl_Q55 : q_link "RedoQuorum" 55 "RedoQuorum$Log" "size" "I" := Or.inr ⟨"RedoQuorum", wd_33⟩
theorem ml_Q58 : q_mlink "RedoQuorum" 58 M_T_start := Or.inl ⟨wd_157, by decide +kernel⟩
theorem ml_Q62 : q_mlink "RedoQuorum" 62 M_Q_isKey := Or.inl ⟨wd_165, by decide +kernel⟩
theorem ml_Q66 : q_mlink "RedoQuorum" 66 M_Q_refusalOfKeys := Or.inl ⟨wd_168, by decide +kernel⟩
theorem ml_Q70 : q_mlink "RedoQuorum" 70 M_Q_pageOf := Or.inl ⟨wd_184, by decide +kernel⟩
theorem ml_Q74 : q_mlink "RedoQuorum" 74 M_Q_touch := Or.inl ⟨wd_187, by decide +kernel⟩
theorem ml_Q78 : q_mlink "RedoQuorum" 78 M_T_hold := Or.inl ⟨wd_239, by decide +kernel⟩
theorem ml_Q82 : q_mlink "RedoQuorum" 82 M_L_valueUpTo := Or.inl ⟨wd_243, by decide +kernel⟩
theorem ml_Q85 : q_mlink "RedoQuorum" 85 M_Q_refusalOfChanges := Or.inl ⟨wd_251, by decide +kernel⟩
theorem ml_Q88 : q_mlink "RedoQuorum" 88 M_L_addChange := Or.inl ⟨wd_255, by decide +kernel⟩
theorem ml_Q92 : q_mlink "RedoQuorum" 92 M_Q_refusalOfTransaction := Or.inl ⟨wd_172, by decide +kernel⟩
theorem ml_Q95 : q_mlink "RedoQuorum" 95 M_T_finish := Or.inl ⟨wd_272, by decide +kernel⟩
theorem ml_Q98 : q_mlink "RedoQuorum" 98 M_L_addEnd := Or.inl ⟨wd_276, by decide +kernel⟩
theorem ml_Q102 : q_mlink "RedoQuorum" 102 M_L_rollBack := Or.inl ⟨wd_287, by decide +kernel⟩
theorem fl_Q105 : q_link "RedoQuorum" 105 "RedoQuorum$Transactions" "begun" "I" := Or.inr ⟨"RedoQuorum", wd_60⟩
theorem ml_Q108 : q_mlink "RedoQuorum" 108 M_T_isActive := Or.inl ⟨wd_176, by decide +kernel⟩
theorem fl_Q111 : q_link "RedoQuorum" 111 "RedoQuorum$Log" "end" "[I" := Or.inr ⟨"RedoQuorum", wd_31⟩
theorem ml_Q114 : q_mlink "RedoQuorum" 114 M_L_commits := Or.inl ⟨wd_302, by decide +kernel⟩
theorem ml_Q117 : q_mlink "RedoQuorum" 117 M_L_has := Or.inl ⟨wd_310, by decide +kernel⟩
theorem fl_Q120 : q_link "RedoQuorum" 120 "RedoQuorum$Log" "group" "[I" := Or.inr ⟨"RedoQuorum", wd_29⟩
theorem fl_Q123 : q_link "RedoQuorum" 123 "RedoQuorum$Group" "copies" "[LRedoQuorum$StorageCopy;" := Or.inr ⟨"RedoQuorum", wd_108⟩
theorem ml_Q127 : q_mlink "RedoQuorum" 127 M_C_isLive := Or.inl ⟨wd_314, by decide +kernel⟩
theorem ml_Q132 : q_mlink "RedoQuorum" 132 M_C_take := Or.inl ⟨wd_315, by decide +kernel⟩
theorem ml_Q135 : q_mlink "RedoQuorum" 135 M_C_tellReach := Or.inl ⟨wd_319, by decide +kernel⟩
theorem ml_Q139 : q_mlink "RedoQuorum" 139 M_Q_raiseDurable := Or.inl ⟨wd_327, by decide +kernel⟩
theorem ml_Q142 : q_mlink "RedoQuorum" 142 M_Q_isCopy := Or.inl ⟨wd_352, by decide +kernel⟩
theorem ml_Q146 : q_mlink "RedoQuorum" 146 M_C_takeAllOf := Or.inl ⟨wd_355, by decide +kernel⟩
theorem ml_Q150 : q_mlink "RedoQuorum" 150 M_Q_refusalOfCopy := Or.inl ⟨wd_365, by decide +kernel⟩
theorem fl_Q153 : q_link "RedoQuorum" 153 "RedoQuorum$StorageCopy" "reported" "I" := Or.inr ⟨"RedoQuorum", wd_95⟩
theorem ml_Q156 : q_mlink "RedoQuorum" 156 M_C_change := Or.inl ⟨wd_373, by decide +kernel⟩
theorem ml_Q159 : q_mlink "RedoQuorum" 159 M_C_lose := Or.inl ⟨wd_377, by decide +kernel⟩
theorem ml_Q162 : q_mlink "RedoQuorum" 162 M_G_repair := Or.inl ⟨wd_385, by decide +kernel⟩
theorem ml_Q166 : q_mlink "RedoQuorum" 166 M_H_clear := Or.inl ⟨wd_398, by decide +kernel⟩
theorem ml_Q169 : q_mlink "RedoQuorum" 169 M_G_forgetReports := Or.inl ⟨wd_402, by decide +kernel⟩
theorem ml_Q172 : q_mlink "RedoQuorum" 172 M_G_liveCopies := Or.inl ⟨wd_410, by decide +kernel⟩
theorem ml_Q175 : q_mlink "RedoQuorum" 175 M_Q_reachOfLiveCopies := Or.inl ⟨wd_411, by decide +kernel⟩
theorem ml_Q178 : q_mlink "RedoQuorum" 178 M_L_lastCloseUpTo := Or.inl ⟨wd_343, by decide +kernel⟩
theorem ml_Q181 : q_mlink "RedoQuorum" 181 M_G_dropAfter := Or.inl ⟨wd_419, by decide +kernel⟩
theorem ml_Q184 : q_mlink "RedoQuorum" 184 M_L_cutAfter := Or.inl ⟨wd_424, by decide +kernel⟩
theorem ml_Q187 : q_mlink "RedoQuorum" 187 M_G_tellReaches := Or.inl ⟨wd_431, by decide +kernel⟩
theorem ml_Q190 : q_mlink "RedoQuorum" 190 M_T_finishAll := Or.inl ⟨wd_436, by decide +kernel⟩
theorem ml_Q193 : q_mlink "RedoQuorum" 193 M_Q_rollBackUnended := Or.inl ⟨wd_441, by decide +kernel⟩
theorem ml_Q196 : q_mlink "RedoQuorum" 196 M_Q_completePoint := Or.inl ⟨wd_331, by decide +kernel⟩
theorem fl_Q199 : q_link "RedoQuorum" 199 "RedoQuorum$StorageCopy" "state" "I" := Or.inr ⟨"RedoQuorum", wd_91⟩
theorem ml_Q202 : q_mlink "RedoQuorum" 202 M_C_reach := Or.inl ⟨wd_457, by decide +kernel⟩
theorem ml_Q206 : q_mlink "RedoQuorum" 206 M_C_keptUpTo := Or.inl ⟨wd_458, by decide +kernel⟩
theorem ml_Q209 : q_mlink "RedoQuorum" 209 M_Q_isReplica := Or.inl ⟨wd_466, by decide +kernel⟩
theorem ml_Q212 : q_mlink "RedoQuorum" 212 M_Q_groupOfPage := Or.inl ⟨wd_224, by decide +kernel⟩
theorem ml_Q215 : q_mlink "RedoQuorum" 215 M_G_serves := Or.inl ⟨wd_227, by decide +kernel⟩
theorem ml_Q219 : q_mlink "RedoQuorum" 219 M_L_endedValueUpTo := Or.inl ⟨wd_473, by decide +kernel⟩
theorem ml_Q222 : q_mlink "RedoQuorum" 222 M_L_lowOf := Or.inl ⟨wd_485, by decide +kernel⟩
theorem mw_Q225 : Cond.methodLink "RedoQuorum" 225 ⟨"java/lang/Math", "min", "(II)I"⟩ ∈ lw_tbl ∧ q_mv (Cond.methodLink "RedoQuorum" 225 ⟨"java/lang/Math", "min", "(II)I"⟩) = true := ⟨wd_489, by decide +kernel⟩
theorem ml_Q230 : q_mlink "RedoQuorum" 230 M_C_foldUpTo := Or.inl ⟨wd_490, by decide +kernel⟩
theorem ml_Q233 : q_mlink "RedoQuorum" 233 M_H_rankOf := Or.inl ⟨wd_191, by decide +kernel⟩
theorem ml_Q236 : q_mlink "RedoQuorum" 236 M_T_mayHold := Or.inl ⟨wd_180, by decide +kernel⟩
theorem ml_Q239 : q_mlink "RedoQuorum" 239 M_H_remove := Or.inl ⟨wd_195, by decide +kernel⟩
theorem ml_Q242 : q_mlink "RedoQuorum" 242 M_H_append := Or.inl ⟨wd_199, by decide +kernel⟩
theorem ml_Q245 : q_mlink "RedoQuorum" 245 M_Q_pageThatMayGo := Or.inl ⟨wd_203, by decide +kernel⟩
theorem ml_Q248 : q_mlink "RedoQuorum" 248 M_Q_isAheadOfDurable := Or.inl ⟨wd_207, by decide +kernel⟩
theorem ml_Q251 : q_mlink "RedoQuorum" 251 M_H_isFull := Or.inl ⟨wd_220, by decide +kernel⟩
theorem fl_Q252 : q_link "RedoQuorum" 252 "RedoQuorum$Cache" "count" "I" := Or.inr ⟨"RedoQuorum", wd_121⟩
theorem fl_Q255 : q_link "RedoQuorum" 255 "RedoQuorum$Cache" "pages" "[I" := Or.inr ⟨"RedoQuorum", wd_119⟩
theorem ml_Q258 : q_mlink "RedoQuorum" 258 M_L_latestOf := Or.inl ⟨wd_211, by decide +kernel⟩
theorem ml_Q261 : q_mlink "RedoQuorum" 261 M_G_quorumPoint := Or.inl ⟨wd_335, by decide +kernel⟩
theorem mw_Q264 : Cond.methodLink "RedoQuorum" 264 ⟨"java/lang/Math", "max", "(II)I"⟩ ∈ lw_tbl ∧ q_mv (Cond.methodLink "RedoQuorum" 264 ⟨"java/lang/Math", "max", "(II)I"⟩) = true := ⟨wd_347, by decide +kernel⟩
theorem ml_Q267 : q_mlink "RedoQuorum" 267 M_G_liveCopyHolds := Or.inl ⟨wd_415, by decide +kernel⟩
theorem ml_Q270 : q_mlink "RedoQuorum" 270 M_L_hasChangeOf := Or.inl ⟨wd_445, by decide +kernel⟩
theorem mw_H1 : Cond.methodLink "RedoQuorum$Cache" 1 ⟨"java/lang/Object", "<init>", "()V"⟩ ∈ lw_tbl ∧ q_mv (Cond.methodLink "RedoQuorum$Cache" 1 ⟨"java/lang/Object", "<init>", "()V"⟩) = true := ⟨wd_117, by decide +kernel⟩
theorem fl_H9 : q_link "RedoQuorum$Cache" 9 "RedoQuorum$Cache" "pages" "[I" := Or.inl ⟨wd_118, by decide +kernel⟩
theorem fw_H9 : Cond.fieldLink "RedoQuorum$Cache" 9 "RedoQuorum$Cache" "pages" "[I" ∈ lw_tbl ∧ q_mv (Cond.fieldLink "RedoQuorum$Cache" 9 "RedoQuorum$Cache" "pages" "[I") = true := ⟨wd_118, by decide +kernel⟩
theorem fl_H13 : q_link "RedoQuorum$Cache" 13 "RedoQuorum$Cache" "count" "I" := Or.inl ⟨wd_120, by decide +kernel⟩
theorem fw_H13 : Cond.fieldLink "RedoQuorum$Cache" 13 "RedoQuorum$Cache" "count" "I" ∈ lw_tbl ∧ q_mv (Cond.fieldLink "RedoQuorum$Cache" 13 "RedoQuorum$Cache" "count" "I") = true := ⟨wd_120, by decide +kernel⟩
theorem mw_G3 : Cond.methodLink "RedoQuorum$Group" 3 ⟨"java/lang/Object", "<init>", "()V"⟩ ∈ lw_tbl ∧ q_mv (Cond.methodLink "RedoQuorum$Group" 3 ⟨"java/lang/Object", "<init>", "()V"⟩) = true := ⟨wd_78, by decide +kernel⟩
theorem fl_G11 : q_link "RedoQuorum$Group" 11 "RedoQuorum$Group" "copies" "[LRedoQuorum$StorageCopy;" := Or.inl ⟨wd_107, by decide +kernel⟩
theorem fw_G11 : Cond.fieldLink "RedoQuorum$Group" 11 "RedoQuorum$Group" "copies" "[LRedoQuorum$StorageCopy;" ∈ lw_tbl ∧ q_mv (Cond.fieldLink "RedoQuorum$Group" 11 "RedoQuorum$Group" "copies" "[LRedoQuorum$StorageCopy;") = true := ⟨wd_107, by decide +kernel⟩
theorem ml_G17 : q_mlink "RedoQuorum$Group" 17 M_C_init := Or.inl ⟨wd_82, by decide +kernel⟩
theorem ml_G20 : q_mlink "RedoQuorum$Group" 20 M_C_isLive := Or.inl ⟨wd_231, by decide +kernel⟩
theorem fl_G24 : q_link "RedoQuorum$Group" 24 "RedoQuorum$StorageCopy" "held" "[Z" := Or.inr ⟨"RedoQuorum", wd_88⟩
theorem ml_G28 : q_mlink "RedoQuorum$Group" 28 M_C_holdsAllUpTo := Or.inl ⟨wd_235, by decide +kernel⟩
theorem fl_G32 : q_link "RedoQuorum$Group" 32 "RedoQuorum$StorageCopy" "reported" "I" := Or.inr ⟨"RedoQuorum", wd_94⟩
theorem ml_G36 : q_mlink "RedoQuorum$Group" 36 M_G_copiesThatReported := Or.inl ⟨wd_339, by decide +kernel⟩
theorem fl_G40 : q_link "RedoQuorum$Group" 40 "RedoQuorum$StorageCopy" "state" "I" := Or.inr ⟨"RedoQuorum", wd_90⟩
theorem ml_G43 : q_mlink "RedoQuorum$Group" 43 M_G_liveCopies := Or.inl ⟨wd_389, by decide +kernel⟩
theorem ml_G47 : q_mlink "RedoQuorum$Group" 47 M_C_takeAllOf := Or.inl ⟨wd_393, by decide +kernel⟩
theorem ml_G51 : q_mlink "RedoQuorum$Group" 51 M_C_dropAfter := Or.inl ⟨wd_423, by decide +kernel⟩
theorem ml_G54 : q_mlink "RedoQuorum$Group" 54 M_C_tellReach := Or.inl ⟨wd_435, by decide +kernel⟩
theorem mw_L3 : Cond.methodLink "RedoQuorum$Log" 3 ⟨"java/lang/Object", "<init>", "()V"⟩ ∈ lw_tbl ∧ q_mv (Cond.methodLink "RedoQuorum$Log" 3 ⟨"java/lang/Object", "<init>", "()V"⟩) = true := ⟨wd_22, by decide +kernel⟩
theorem fl_L11 : q_link "RedoQuorum$Log" 11 "RedoQuorum$Log" "kind" "[I" := Or.inl ⟨wd_23, by decide +kernel⟩
theorem fw_L11 : Cond.fieldLink "RedoQuorum$Log" 11 "RedoQuorum$Log" "kind" "[I" ∈ lw_tbl ∧ q_mv (Cond.fieldLink "RedoQuorum$Log" 11 "RedoQuorum$Log" "kind" "[I") = true := ⟨wd_23, by decide +kernel⟩
theorem fl_L15 : q_link "RedoQuorum$Log" 15 "RedoQuorum$Log" "owner" "[I" := Or.inl ⟨wd_24, by decide +kernel⟩
theorem fw_L15 : Cond.fieldLink "RedoQuorum$Log" 15 "RedoQuorum$Log" "owner" "[I" ∈ lw_tbl ∧ q_mv (Cond.fieldLink "RedoQuorum$Log" 15 "RedoQuorum$Log" "owner" "[I") = true := ⟨wd_24, by decide +kernel⟩
theorem fl_L18 : q_link "RedoQuorum$Log" 18 "RedoQuorum$Log" "key" "[I" := Or.inl ⟨wd_25, by decide +kernel⟩
theorem fw_L18 : Cond.fieldLink "RedoQuorum$Log" 18 "RedoQuorum$Log" "key" "[I" ∈ lw_tbl ∧ q_mv (Cond.fieldLink "RedoQuorum$Log" 18 "RedoQuorum$Log" "key" "[I") = true := ⟨wd_25, by decide +kernel⟩
theorem fl_L21 : q_link "RedoQuorum$Log" 21 "RedoQuorum$Log" "value" "[I" := Or.inl ⟨wd_26, by decide +kernel⟩
theorem fw_L21 : Cond.fieldLink "RedoQuorum$Log" 21 "RedoQuorum$Log" "value" "[I" ∈ lw_tbl ∧ q_mv (Cond.fieldLink "RedoQuorum$Log" 21 "RedoQuorum$Log" "value" "[I") = true := ⟨wd_26, by decide +kernel⟩
theorem fl_L24 : q_link "RedoQuorum$Log" 24 "RedoQuorum$Log" "group" "[I" := Or.inl ⟨wd_27, by decide +kernel⟩
theorem fw_L24 : Cond.fieldLink "RedoQuorum$Log" 24 "RedoQuorum$Log" "group" "[I" ∈ lw_tbl ∧ q_mv (Cond.fieldLink "RedoQuorum$Log" 24 "RedoQuorum$Log" "group" "[I") = true := ⟨wd_27, by decide +kernel⟩
theorem fl_L27 : q_link "RedoQuorum$Log" 27 "RedoQuorum$Log" "end" "[I" := Or.inl ⟨wd_30, by decide +kernel⟩
theorem fw_L27 : Cond.fieldLink "RedoQuorum$Log" 27 "RedoQuorum$Log" "end" "[I" ∈ lw_tbl ∧ q_mv (Cond.fieldLink "RedoQuorum$Log" 27 "RedoQuorum$Log" "end" "[I") = true := ⟨wd_30, by decide +kernel⟩
theorem fl_L30 : q_link "RedoQuorum$Log" 30 "RedoQuorum$Log" "size" "I" := Or.inl ⟨wd_32, by decide +kernel⟩
theorem fw_L30 : Cond.fieldLink "RedoQuorum$Log" 30 "RedoQuorum$Log" "size" "I" ∈ lw_tbl ∧ q_mv (Cond.fieldLink "RedoQuorum$Log" 30 "RedoQuorum$Log" "size" "I") = true := ⟨wd_32, by decide +kernel⟩
theorem ml_L34 : q_mlink "RedoQuorum$Log" 34 M_Q_pageOf := Or.inr ⟨"RedoQuorum", wd_219⟩
theorem ml_L38 : q_mlink "RedoQuorum$Log" 38 M_Q_groupOfPage := Or.inr ⟨"RedoQuorum", wd_259⟩
theorem ml_L41 : q_mlink "RedoQuorum$Log" 41 M_L_add := Or.inl ⟨wd_260, by decide +kernel⟩
theorem mw_L45 : Cond.methodLink "RedoQuorum$Log" 45 ⟨"java/lang/Math", "max", "(II)I"⟩ ∈ lw_tbl ∧ q_mv (Cond.methodLink "RedoQuorum$Log" 45 ⟨"java/lang/Math", "max", "(II)I"⟩) = true := ⟨wd_280, by decide +kernel⟩
theorem ml_L51 : q_mlink "RedoQuorum$Log" 51 M_L_firstChange := Or.inl ⟨wd_291, by decide +kernel⟩
theorem ml_L54 : q_mlink "RedoQuorum$Log" 54 M_L_valueUpTo := Or.inl ⟨wd_295, by decide +kernel⟩
theorem ml_L57 : q_mlink "RedoQuorum$Log" 57 M_L_addChange := Or.inl ⟨wd_296, by decide +kernel⟩
theorem ml_L61 : q_mlink "RedoQuorum$Log" 61 M_L_addEnd := Or.inl ⟨wd_297, by decide +kernel⟩
theorem mw_L65 : Cond.methodLink "RedoQuorum$Log" 65 ⟨"java/lang/Math", "min", "(II)I"⟩ ∈ lw_tbl ∧ q_mv (Cond.methodLink "RedoQuorum$Log" 65 ⟨"java/lang/Math", "min", "(II)I"⟩) = true := ⟨wd_428, by decide +kernel⟩
theorem ml_L68 : q_mlink "RedoQuorum$Log" 68 M_L_isEndedBy := Or.inl ⟨wd_477, by decide +kernel⟩
theorem ml_L72 : q_mlink "RedoQuorum$Log" 72 M_L_isEnd := Or.inl ⟨wd_215, by decide +kernel⟩
theorem mw_C1 : Cond.methodLink "RedoQuorum$StorageCopy" 1 ⟨"java/lang/Object", "<init>", "()V"⟩ ∈ lw_tbl ∧ q_mv (Cond.methodLink "RedoQuorum$StorageCopy" 1 ⟨"java/lang/Object", "<init>", "()V"⟩) = true := ⟨wd_85, by decide +kernel⟩
theorem fl_C9 : q_link "RedoQuorum$StorageCopy" 9 "RedoQuorum$StorageCopy" "held" "[Z" := Or.inl ⟨wd_87, by decide +kernel⟩
theorem fw_C9 : Cond.fieldLink "RedoQuorum$StorageCopy" 9 "RedoQuorum$StorageCopy" "held" "[Z" ∈ lw_tbl ∧ q_mv (Cond.fieldLink "RedoQuorum$StorageCopy" 9 "RedoQuorum$StorageCopy" "held" "[Z") = true := ⟨wd_87, by decide +kernel⟩
theorem fl_C15 : q_link "RedoQuorum$StorageCopy" 15 "RedoQuorum$StorageCopy" "state" "I" := Or.inl ⟨wd_89, by decide +kernel⟩
theorem fw_C15 : Cond.fieldLink "RedoQuorum$StorageCopy" 15 "RedoQuorum$StorageCopy" "state" "I" ∈ lw_tbl ∧ q_mv (Cond.fieldLink "RedoQuorum$StorageCopy" 15 "RedoQuorum$StorageCopy" "state" "I") = true := ⟨wd_89, by decide +kernel⟩
theorem fl_C19 : q_link "RedoQuorum$StorageCopy" 19 "RedoQuorum$StorageCopy" "fold" "I" := Or.inl ⟨wd_92, by decide +kernel⟩
theorem fw_C19 : Cond.fieldLink "RedoQuorum$StorageCopy" 19 "RedoQuorum$StorageCopy" "fold" "I" ∈ lw_tbl ∧ q_mv (Cond.fieldLink "RedoQuorum$StorageCopy" 19 "RedoQuorum$StorageCopy" "fold" "I") = true := ⟨wd_92, by decide +kernel⟩
theorem fl_C22 : q_link "RedoQuorum$StorageCopy" 22 "RedoQuorum$StorageCopy" "reported" "I" := Or.inl ⟨wd_93, by decide +kernel⟩
theorem fw_C22 : Cond.fieldLink "RedoQuorum$StorageCopy" 22 "RedoQuorum$StorageCopy" "reported" "I" ∈ lw_tbl ∧ q_mv (Cond.fieldLink "RedoQuorum$StorageCopy" 22 "RedoQuorum$StorageCopy" "reported" "I") = true := ⟨wd_93, by decide +kernel⟩
theorem fl_C25 : q_link "RedoQuorum$StorageCopy" 25 "RedoQuorum$StorageCopy" "group" "I" := Or.inl ⟨wd_86, by decide +kernel⟩
theorem fw_C25 : Cond.fieldLink "RedoQuorum$StorageCopy" 25 "RedoQuorum$StorageCopy" "group" "I" ∈ lw_tbl ∧ q_mv (Cond.fieldLink "RedoQuorum$StorageCopy" 25 "RedoQuorum$StorageCopy" "group" "I") = true := ⟨wd_86, by decide +kernel⟩
theorem ml_C28 : q_mlink "RedoQuorum$StorageCopy" 28 M_C_dropAfter := Or.inl ⟨wd_381, by decide +kernel⟩
theorem ml_C32 : q_mlink "RedoQuorum$StorageCopy" 32 M_C_take := Or.inl ⟨wd_359, by decide +kernel⟩
theorem mw_C36 : Cond.methodLink "RedoQuorum$StorageCopy" 36 ⟨"java/lang/Math", "max", "(II)I"⟩ ∈ lw_tbl ∧ q_mv (Cond.methodLink "RedoQuorum$StorageCopy" 36 ⟨"java/lang/Math", "max", "(II)I"⟩) = true := ⟨wd_360, by decide +kernel⟩
theorem fl_C42 : q_link "RedoQuorum$StorageCopy" 42 "RedoQuorum$Log" "size" "I" := Or.inr ⟨"RedoQuorum", wd_34⟩
theorem fl_C45 : q_link "RedoQuorum$StorageCopy" 45 "RedoQuorum$Log" "group" "[I" := Or.inr ⟨"RedoQuorum", wd_28⟩
theorem ml_C48 : q_mlink "RedoQuorum$StorageCopy" 48 M_C_reach := Or.inl ⟨wd_323, by decide +kernel⟩
theorem ml_C52 : q_mlink "RedoQuorum$StorageCopy" 52 M_C_keptUpTo := Or.inl ⟨wd_494, by decide +kernel⟩
theorem mw_T3 : Cond.methodLink "RedoQuorum$Transactions" 3 ⟨"java/lang/Object", "<init>", "()V"⟩ ∈ lw_tbl ∧ q_mv (Cond.methodLink "RedoQuorum$Transactions" 3 ⟨"java/lang/Object", "<init>", "()V"⟩) = true := ⟨wd_56, by decide +kernel⟩
theorem fl_T9 : q_link "RedoQuorum$Transactions" 9 "RedoQuorum$Transactions" "active" "[Z" := Or.inl ⟨wd_57, by decide +kernel⟩
theorem fw_T9 : Cond.fieldLink "RedoQuorum$Transactions" 9 "RedoQuorum$Transactions" "active" "[Z" ∈ lw_tbl ∧ q_mv (Cond.fieldLink "RedoQuorum$Transactions" 9 "RedoQuorum$Transactions" "active" "[Z") = true := ⟨wd_57, by decide +kernel⟩
theorem fl_T15 : q_link "RedoQuorum$Transactions" 15 "RedoQuorum$Transactions" "holder" "[I" := Or.inl ⟨wd_58, by decide +kernel⟩
theorem fw_T15 : Cond.fieldLink "RedoQuorum$Transactions" 15 "RedoQuorum$Transactions" "holder" "[I" ∈ lw_tbl ∧ q_mv (Cond.fieldLink "RedoQuorum$Transactions" 15 "RedoQuorum$Transactions" "holder" "[I") = true := ⟨wd_58, by decide +kernel⟩
theorem fl_T19 : q_link "RedoQuorum$Transactions" 19 "RedoQuorum$Transactions" "begun" "I" := Or.inl ⟨wd_59, by decide +kernel⟩
theorem fw_T19 : Cond.fieldLink "RedoQuorum$Transactions" 19 "RedoQuorum$Transactions" "begun" "I" ∈ lw_tbl ∧ q_mv (Cond.fieldLink "RedoQuorum$Transactions" 19 "RedoQuorum$Transactions" "begun" "I") = true := ⟨wd_59, by decide +kernel⟩
theorem fl_T23 : q_link "RedoQuorum$Transactions" 23 "RedoQuorum$Transactions" "activeCount" "I" := Or.inl ⟨wd_61, by decide +kernel⟩
theorem fw_T23 : Cond.fieldLink "RedoQuorum$Transactions" 23 "RedoQuorum$Transactions" "activeCount" "I" ∈ lw_tbl ∧ q_mv (Cond.fieldLink "RedoQuorum$Transactions" 23 "RedoQuorum$Transactions" "activeCount" "I") = true := ⟨wd_61, by decide +kernel⟩
theorem ml_T26 : q_mlink "RedoQuorum$Transactions" 26 M_T_finish := Or.inl ⟨wd_440, by decide +kernel⟩
theorem ml_W9 : q_mlink "RedoQuorumLaw" 9 M_Q_init := Or.inl ⟨wd_11, by decide +kernel⟩
theorem ml_W12 : q_mlink "RedoQuorumLaw" 12 M_M_init := Or.inl ⟨wd_501, by decide +kernel⟩
theorem ml_W13 : q_mlink "RedoQuorumLaw" 13 M_Q_begin := Or.inl ⟨wd_149, by decide +kernel⟩
theorem ml_W17 : q_mlink "RedoQuorumLaw" 17 M_M_begin := Or.inl ⟨wd_568, by decide +kernel⟩
theorem ml_W18 : q_mlink "RedoQuorumLaw" 18 M_Q_read := Or.inl ⟨wd_161, by decide +kernel⟩
theorem ml_W22 : q_mlink "RedoQuorumLaw" 22 M_M_read := Or.inl ⟨wd_572, by decide +kernel⟩
theorem ml_W23 : q_mlink "RedoQuorumLaw" 23 M_Q_write := Or.inl ⟨wd_247, by decide +kernel⟩
theorem ml_W27 : q_mlink "RedoQuorumLaw" 27 M_M_write := Or.inl ⟨wd_619, by decide +kernel⟩
theorem ml_W28 : q_mlink "RedoQuorumLaw" 28 M_Q_shift := Or.inl ⟨wd_264, by decide +kernel⟩
theorem ml_W32 : q_mlink "RedoQuorumLaw" 32 M_M_shift := Or.inl ⟨wd_627, by decide +kernel⟩
theorem ml_W33 : q_mlink "RedoQuorumLaw" 33 M_Q_commit := Or.inl ⟨wd_268, by decide +kernel⟩
theorem ml_W37 : q_mlink "RedoQuorumLaw" 37 M_M_commit := Or.inl ⟨wd_631, by decide +kernel⟩
theorem ml_W38 : q_mlink "RedoQuorumLaw" 38 M_Q_abort := Or.inl ⟨wd_283, by decide +kernel⟩
theorem ml_W41 : q_mlink "RedoQuorumLaw" 41 M_M_abort := Or.inl ⟨wd_639, by decide +kernel⟩
theorem ml_W42 : q_mlink "RedoQuorumLaw" 42 M_Q_status := Or.inl ⟨wd_298, by decide +kernel⟩
theorem ml_W45 : q_mlink "RedoQuorumLaw" 45 M_M_status := Or.inl ⟨wd_651, by decide +kernel⟩
theorem ml_W46 : q_mlink "RedoQuorumLaw" 46 M_Q_deliver := Or.inl ⟨wd_306, by decide +kernel⟩
theorem ml_W49 : q_mlink "RedoQuorumLaw" 49 M_M_deliver := Or.inl ⟨wd_659, by decide +kernel⟩
theorem ml_W50 : q_mlink "RedoQuorumLaw" 50 M_Q_gossip := Or.inl ⟨wd_348, by decide +kernel⟩
theorem ml_W53 : q_mlink "RedoQuorumLaw" 53 M_M_gossip := Or.inl ⟨wd_687, by decide +kernel⟩
theorem ml_W54 : q_mlink "RedoQuorumLaw" 54 M_Q_report := Or.inl ⟨wd_361, by decide +kernel⟩
theorem ml_W57 : q_mlink "RedoQuorumLaw" 57 M_M_report := Or.inl ⟨wd_698, by decide +kernel⟩
theorem ml_W58 : q_mlink "RedoQuorumLaw" 58 M_Q_fault := Or.inl ⟨wd_369, by decide +kernel⟩
theorem ml_W62 : q_mlink "RedoQuorumLaw" 62 M_M_fault := Or.inl ⟨wd_702, by decide +kernel⟩
theorem ml_W63 : q_mlink "RedoQuorumLaw" 63 M_Q_crash := Or.inl ⟨wd_394, by decide +kernel⟩
theorem ml_W67 : q_mlink "RedoQuorumLaw" 67 M_M_crash := Or.inl ⟨wd_710, by decide +kernel⟩
theorem ml_W68 : q_mlink "RedoQuorumLaw" 68 M_Q_recover := Or.inl ⟨wd_406, by decide +kernel⟩
theorem ml_W71 : q_mlink "RedoQuorumLaw" 71 M_M_recover := Or.inl ⟨wd_714, by decide +kernel⟩
theorem ml_W72 : q_mlink "RedoQuorumLaw" 72 M_Q_point := Or.inl ⟨wd_449, by decide +kernel⟩
theorem ml_W75 : q_mlink "RedoQuorumLaw" 75 M_M_point := Or.inl ⟨wd_722, by decide +kernel⟩
theorem ml_W76 : q_mlink "RedoQuorumLaw" 76 M_Q_copy := Or.inl ⟨wd_453, by decide +kernel⟩
theorem ml_W79 : q_mlink "RedoQuorumLaw" 79 M_M_copy := Or.inl ⟨wd_726, by decide +kernel⟩
theorem ml_W80 : q_mlink "RedoQuorumLaw" 80 M_Q_follow := Or.inl ⟨wd_462, by decide +kernel⟩
theorem ml_W83 : q_mlink "RedoQuorumLaw" 83 M_M_follow := Or.inl ⟨wd_730, by decide +kernel⟩
theorem ml_W84 : q_mlink "RedoQuorumLaw" 84 M_Q_view := Or.inl ⟨wd_469, by decide +kernel⟩
theorem ml_W87 : q_mlink "RedoQuorumLaw" 87 M_M_view := Or.inl ⟨wd_734, by decide +kernel⟩
theorem ml_W88 : q_mlink "RedoQuorumLaw" 88 M_Q_collect := Or.inl ⟨wd_481, by decide +kernel⟩
theorem ml_W91 : q_mlink "RedoQuorumLaw" 91 M_M_collect := Or.inl ⟨wd_738, by decide +kernel⟩
theorem ml_W92 : q_mlink "RedoQuorumLaw" 92 M_Q_cached := Or.inl ⟨wd_495, by decide +kernel⟩
theorem ml_W95 : q_mlink "RedoQuorumLaw" 95 M_M_cached := Or.inl ⟨wd_560, by decide +kernel⟩
theorem mw_M1 : Cond.methodLink "RedoQuorumModel" 1 ⟨"java/lang/Object", "<init>", "()V"⟩ ∈ lw_tbl ∧ q_mv (Cond.methodLink "RedoQuorumModel" 1 ⟨"java/lang/Object", "<init>", "()V"⟩) = true := ⟨wd_504, by decide +kernel⟩
theorem fl_M7 : q_link "RedoQuorumModel" 7 "RedoQuorumModel" "owner" "[I" := Or.inl ⟨wd_506, by decide +kernel⟩
theorem fw_M7 : Cond.fieldLink "RedoQuorumModel" 7 "RedoQuorumModel" "owner" "[I" ∈ lw_tbl ∧ q_mv (Cond.fieldLink "RedoQuorumModel" 7 "RedoQuorumModel" "owner" "[I") = true := ⟨wd_506, by decide +kernel⟩
theorem fl_M13 : q_link "RedoQuorumModel" 13 "RedoQuorumModel" "keyOf" "[I" := Or.inl ⟨wd_507, by decide +kernel⟩
theorem fw_M13 : Cond.fieldLink "RedoQuorumModel" 13 "RedoQuorumModel" "keyOf" "[I" ∈ lw_tbl ∧ q_mv (Cond.fieldLink "RedoQuorumModel" 13 "RedoQuorumModel" "keyOf" "[I") = true := ⟨wd_507, by decide +kernel⟩
theorem fl_M16 : q_link "RedoQuorumModel" 16 "RedoQuorumModel" "valueOf" "[I" := Or.inl ⟨wd_508, by decide +kernel⟩
theorem fw_M16 : Cond.fieldLink "RedoQuorumModel" 16 "RedoQuorumModel" "valueOf" "[I" ∈ lw_tbl ∧ q_mv (Cond.fieldLink "RedoQuorumModel" 16 "RedoQuorumModel" "valueOf" "[I") = true := ⟨wd_508, by decide +kernel⟩
theorem fl_M19 : q_link "RedoQuorumModel" 19 "RedoQuorumModel" "ends" "[I" := Or.inl ⟨wd_509, by decide +kernel⟩
theorem fw_M19 : Cond.fieldLink "RedoQuorumModel" 19 "RedoQuorumModel" "ends" "[I" ∈ lw_tbl ∧ q_mv (Cond.fieldLink "RedoQuorumModel" 19 "RedoQuorumModel" "ends" "[I") = true := ⟨wd_509, by decide +kernel⟩
theorem fl_M22 : q_link "RedoQuorumModel" 22 "RedoQuorumModel" "closes" "[Z" := Or.inl ⟨wd_510, by decide +kernel⟩
theorem fw_M22 : Cond.fieldLink "RedoQuorumModel" 22 "RedoQuorumModel" "closes" "[Z" ∈ lw_tbl ∧ q_mv (Cond.fieldLink "RedoQuorumModel" 22 "RedoQuorumModel" "closes" "[Z") = true := ⟨wd_510, by decide +kernel⟩
theorem fl_M26 : q_link "RedoQuorumModel" 26 "RedoQuorumModel" "holds" "[Z" := Or.inl ⟨wd_511, by decide +kernel⟩
theorem fw_M26 : Cond.fieldLink "RedoQuorumModel" 26 "RedoQuorumModel" "holds" "[Z" ∈ lw_tbl ∧ q_mv (Cond.fieldLink "RedoQuorumModel" 26 "RedoQuorumModel" "holds" "[Z") = true := ⟨wd_511, by decide +kernel⟩
theorem fl_M29 : q_link "RedoQuorumModel" 29 "RedoQuorumModel" "stateOf" "[I" := Or.inl ⟨wd_512, by decide +kernel⟩
theorem fw_M29 : Cond.fieldLink "RedoQuorumModel" 29 "RedoQuorumModel" "stateOf" "[I" ∈ lw_tbl ∧ q_mv (Cond.fieldLink "RedoQuorumModel" 29 "RedoQuorumModel" "stateOf" "[I") = true := ⟨wd_512, by decide +kernel⟩
theorem fl_M32 : q_link "RedoQuorumModel" 32 "RedoQuorumModel" "fold" "[I" := Or.inl ⟨wd_513, by decide +kernel⟩
theorem fw_M32 : Cond.fieldLink "RedoQuorumModel" 32 "RedoQuorumModel" "fold" "[I" ∈ lw_tbl ∧ q_mv (Cond.fieldLink "RedoQuorumModel" 32 "RedoQuorumModel" "fold" "[I") = true := ⟨wd_513, by decide +kernel⟩
theorem fl_M35 : q_link "RedoQuorumModel" 35 "RedoQuorumModel" "reported" "[I" := Or.inl ⟨wd_514, by decide +kernel⟩
theorem fw_M35 : Cond.fieldLink "RedoQuorumModel" 35 "RedoQuorumModel" "reported" "[I" ∈ lw_tbl ∧ q_mv (Cond.fieldLink "RedoQuorumModel" 35 "RedoQuorumModel" "reported" "[I") = true := ⟨wd_514, by decide +kernel⟩
theorem fl_M38 : q_link "RedoQuorumModel" 38 "RedoQuorumModel" "active" "[Z" := Or.inl ⟨wd_518, by decide +kernel⟩
theorem fw_M38 : Cond.fieldLink "RedoQuorumModel" 38 "RedoQuorumModel" "active" "[Z" ∈ lw_tbl ∧ q_mv (Cond.fieldLink "RedoQuorumModel" 38 "RedoQuorumModel" "active" "[Z") = true := ⟨wd_518, by decide +kernel⟩
theorem fl_M41 : q_link "RedoQuorumModel" 41 "RedoQuorumModel" "heldBy" "[I" := Or.inl ⟨wd_519, by decide +kernel⟩
theorem fw_M41 : Cond.fieldLink "RedoQuorumModel" 41 "RedoQuorumModel" "heldBy" "[I" ∈ lw_tbl ∧ q_mv (Cond.fieldLink "RedoQuorumModel" 41 "RedoQuorumModel" "heldBy" "[I") = true := ⟨wd_519, by decide +kernel⟩
theorem fl_M44 : q_link "RedoQuorumModel" 44 "RedoQuorumModel" "cache" "[I" := Or.inl ⟨wd_520, by decide +kernel⟩
theorem fw_M44 : Cond.fieldLink "RedoQuorumModel" 44 "RedoQuorumModel" "cache" "[I" ∈ lw_tbl ∧ q_mv (Cond.fieldLink "RedoQuorumModel" 44 "RedoQuorumModel" "cache" "[I") = true := ⟨wd_520, by decide +kernel⟩
theorem fl_M47 : q_link "RedoQuorumModel" 47 "RedoQuorumModel" "views" "[I" := Or.inl ⟨wd_522, by decide +kernel⟩
theorem fw_M47 : Cond.fieldLink "RedoQuorumModel" 47 "RedoQuorumModel" "views" "[I" ∈ lw_tbl ∧ q_mv (Cond.fieldLink "RedoQuorumModel" 47 "RedoQuorumModel" "views" "[I") = true := ⟨wd_522, by decide +kernel⟩
theorem fl_M50 : q_link "RedoQuorumModel" 50 "RedoQuorumModel" "begun" "I" := Or.inl ⟨wd_517, by decide +kernel⟩
theorem fw_M50 : Cond.fieldLink "RedoQuorumModel" 50 "RedoQuorumModel" "begun" "I" ∈ lw_tbl ∧ q_mv (Cond.fieldLink "RedoQuorumModel" 50 "RedoQuorumModel" "begun" "I") = true := ⟨wd_517, by decide +kernel⟩
theorem fl_M54 : q_link "RedoQuorumModel" 54 "RedoQuorumModel" "n" "I" := Or.inl ⟨wd_505, by decide +kernel⟩
theorem fw_M54 : Cond.fieldLink "RedoQuorumModel" 54 "RedoQuorumModel" "n" "I" ∈ lw_tbl ∧ q_mv (Cond.fieldLink "RedoQuorumModel" 54 "RedoQuorumModel" "n" "I") = true := ⟨wd_505, by decide +kernel⟩
theorem ml_M57 : q_mlink "RedoQuorumModel" 57 M_M_changeUpTo := Or.inl ⟨wd_599, by decide +kernel⟩
theorem ml_M61 : q_mlink "RedoQuorumModel" 61 M_M_add := Or.inl ⟨wd_623, by decide +kernel⟩
theorem ml_M65 : q_mlink "RedoQuorumModel" 65 M_M_firstChange := Or.inl ⟨wd_647, by decide +kernel⟩
theorem ml_M68 : q_mlink "RedoQuorumModel" 68 M_M_valueUpTo := Or.inl ⟨wd_615, by decide +kernel⟩
theorem ml_M71 : q_mlink "RedoQuorumModel" 71 M_M_finish := Or.inl ⟨wd_635, by decide +kernel⟩
theorem ml_M74 : q_mlink "RedoQuorumModel" 74 M_M_groupOf := Or.inl ⟨wd_607, by decide +kernel⟩
theorem ml_M78 : q_mlink "RedoQuorumModel" 78 M_M_groupPoint := Or.inl ⟨wd_679, by decide +kernel⟩
theorem ml_M81 : q_mlink "RedoQuorumModel" 81 M_M_pointOf := Or.inl ⟨wd_667, by decide +kernel⟩
theorem ml_M84 : q_mlink "RedoQuorumModel" 84 M_M_advance := Or.inl ⟨wd_671, by decide +kernel⟩
theorem ml_M87 : q_mlink "RedoQuorumModel" 87 M_M_complete := Or.inl ⟨wd_675, by decide +kernel⟩
theorem ml_M91 : q_mlink "RedoQuorumModel" 91 M_M_closeUpTo := Or.inl ⟨wd_683, by decide +kernel⟩
theorem fl_M94 : q_link "RedoQuorumModel" 94 "RedoQuorumModel" "durable" "I" := Or.inl ⟨wd_516, by decide +kernel⟩
theorem fw_M94 : Cond.fieldLink "RedoQuorumModel" 94 "RedoQuorumModel" "durable" "I" ∈ lw_tbl ∧ q_mv (Cond.fieldLink "RedoQuorumModel" 94 "RedoQuorumModel" "durable" "I") = true := ⟨wd_516, by decide +kernel⟩
theorem fl_M97 : q_link "RedoQuorumModel" 97 "RedoQuorumModel" "pages" "I" := Or.inl ⟨wd_521, by decide +kernel⟩
theorem fw_M97 : Cond.fieldLink "RedoQuorumModel" 97 "RedoQuorumModel" "pages" "I" ∈ lw_tbl ∧ q_mv (Cond.fieldLink "RedoQuorumModel" 97 "RedoQuorumModel" "pages" "I") = true := ⟨wd_521, by decide +kernel⟩
theorem ml_M100 : q_mlink "RedoQuorumModel" 100 M_M_latest := Or.inl ⟨wd_595, by decide +kernel⟩
theorem ml_M103 : q_mlink "RedoQuorumModel" 103 M_M_placeOf := Or.inl ⟨wd_564, by decide +kernel⟩
theorem ml_M106 : q_mlink "RedoQuorumModel" 106 M_M_goes := Or.inl ⟨wd_591, by decide +kernel⟩
theorem ml_M109 : q_mlink "RedoQuorumModel" 109 M_M_served := Or.inl ⟨wd_603, by decide +kernel⟩
theorem ml_M113 : q_mlink "RedoQuorumModel" 113 M_M_drop := Or.inl ⟨wd_611, by decide +kernel⟩
theorem fl_M117 : q_link "RedoQuorumModel" 117 "RedoQuorumModel" "down" "Z" := Or.inl ⟨wd_515, by decide +kernel⟩
theorem fw_M117 : Cond.fieldLink "RedoQuorumModel" 117 "RedoQuorumModel" "down" "Z" ∈ lw_tbl ∧ q_mv (Cond.fieldLink "RedoQuorumModel" 117 "RedoQuorumModel" "down" "Z") = true := ⟨wd_515, by decide +kernel⟩
theorem ml_M121 : q_mlink "RedoQuorumModel" 121 M_M_isKey := Or.inl ⟨wd_576, by decide +kernel⟩
theorem ml_M125 : q_mlink "RedoQuorumModel" 125 M_M_isActive := Or.inl ⟨wd_579, by decide +kernel⟩
theorem ml_M128 : q_mlink "RedoQuorumModel" 128 M_M_locked := Or.inl ⟨wd_583, by decide +kernel⟩
theorem ml_M131 : q_mlink "RedoQuorumModel" 131 M_M_touch := Or.inl ⟨wd_587, by decide +kernel⟩
theorem ml_M134 : q_mlink "RedoQuorumModel" 134 M_M_rollBack := Or.inl ⟨wd_643, by decide +kernel⟩
theorem ml_M137 : q_mlink "RedoQuorumModel" 137 M_M_endOf := Or.inl ⟨wd_655, by decide +kernel⟩
theorem ml_M140 : q_mlink "RedoQuorumModel" 140 M_M_reportPoint := Or.inl ⟨wd_663, by decide +kernel⟩
theorem ml_M143 : q_mlink "RedoQuorumModel" 143 M_M_isCopy := Or.inl ⟨wd_691, by decide +kernel⟩
theorem ml_M146 : q_mlink "RedoQuorumModel" 146 M_M_join := Or.inl ⟨wd_694, by decide +kernel⟩
theorem ml_M149 : q_mlink "RedoQuorumModel" 149 M_M_live := Or.inl ⟨wd_706, by decide +kernel⟩
theorem ml_M152 : q_mlink "RedoQuorumModel" 152 M_M_survives := Or.inl ⟨wd_718, by decide +kernel⟩
theorem ml_M155 : q_mlink "RedoQuorumModel" 155 M_M_low := Or.inl ⟨wd_742, by decide +kernel⟩
theorem ob_1 : Cond.instanceMethod ⟨"java/lang/Object", "<init>", "()V"⟩ ∈ lw_tbl ∧ q_mv (Cond.instanceMethod ⟨"java/lang/Object", "<init>", "()V"⟩) = true := ⟨wd_15, by decide +kernel⟩
theorem ob_2 : Cond.code ⟨"java/lang/Object", "<init>", "()V"⟩ object_method_1_code 1 (none : Option Jvm.ClassFile.FieldType) ∈ lw_tbl ∧ q_mv (Cond.code ⟨"java/lang/Object", "<init>", "()V"⟩ object_method_1_code 1 (none : Option Jvm.ClassFile.FieldType)) = true := ⟨wd_16, by decide +kernel⟩
theorem mt_0 : Cond.initialized "java/lang/Math" ∈ lw_tbl ∧ q_mv (Cond.initialized "java/lang/Math") = true := ⟨wd_8, by decide +kernel⟩
theorem mx_1 : Cond.static ⟨"java/lang/Math", "max", "(II)I"⟩ ∈ lw_tbl ∧ q_mv (Cond.static ⟨"java/lang/Math", "max", "(II)I"⟩) = true := ⟨wd_281, by decide +kernel⟩
theorem mx_2 : Cond.code ⟨"java/lang/Math", "max", "(II)I"⟩ prog_9_method_65_code 2 (some .int) ∈ lw_tbl ∧ q_mv (Cond.code ⟨"java/lang/Math", "max", "(II)I"⟩ prog_9_method_65_code 2 (some .int)) = true := ⟨wd_282, by decide +kernel⟩
theorem mn_1 : Cond.static ⟨"java/lang/Math", "min", "(II)I"⟩ ∈ lw_tbl ∧ q_mv (Cond.static ⟨"java/lang/Math", "min", "(II)I"⟩) = true := ⟨wd_429, by decide +kernel⟩
theorem mn_2 : Cond.code ⟨"java/lang/Math", "min", "(II)I"⟩ prog_9_method_69_code 2 (some .int) ∈ lw_tbl ∧ q_mv (Cond.code ⟨"java/lang/Math", "min", "(II)I"⟩ prog_9_method_69_code 2 (some .int)) = true := ⟨wd_430, by decide +kernel⟩
theorem ac_0 : Cond.arrayClass .int ∈ lw_tbl ∧ q_mv (Cond.arrayClass .int) = true := ⟨wd_50, by decide +kernel⟩
theorem ac_1 : Cond.arrayClass .boolean ∈ lw_tbl ∧ q_mv (Cond.arrayClass .boolean) = true := ⟨wd_71, by decide +kernel⟩
theorem ao_2 : Cond.arrayOver (.object "RedoQuorum$Group") ∈ lw_tbl ∧ q_mv (Cond.arrayOver (.object "RedoQuorum$Group")) = true := ⟨wd_73, by decide +kernel⟩
theorem ao_3 : Cond.arrayOver (.object "RedoQuorum$StorageCopy") ∈ lw_tbl ∧ q_mv (Cond.arrayOver (.object "RedoQuorum$StorageCopy")) = true := ⟨wd_80, by decide +kernel⟩
theorem ii_W : Cond.initialized "RedoQuorumLaw" ∈ lw_tbl ∧ q_mv (Cond.initialized "RedoQuorumLaw") = true := ⟨wd_0, by decide +kernel⟩
theorem ii_Q : Cond.initialized "RedoQuorum" ∈ lw_tbl ∧ q_mv (Cond.initialized "RedoQuorum") = true := ⟨wd_1, by decide +kernel⟩
theorem ii_L : Cond.initialized "RedoQuorum$Log" ∈ lw_tbl ∧ q_mv (Cond.initialized "RedoQuorum$Log") = true := ⟨wd_2, by decide +kernel⟩
theorem ii_T : Cond.initialized "RedoQuorum$Transactions" ∈ lw_tbl ∧ q_mv (Cond.initialized "RedoQuorum$Transactions") = true := ⟨wd_3, by decide +kernel⟩
theorem ii_G : Cond.initialized "RedoQuorum$Group" ∈ lw_tbl ∧ q_mv (Cond.initialized "RedoQuorum$Group") = true := ⟨wd_4, by decide +kernel⟩
theorem ii_C : Cond.initialized "RedoQuorum$StorageCopy" ∈ lw_tbl ∧ q_mv (Cond.initialized "RedoQuorum$StorageCopy") = true := ⟨wd_5, by decide +kernel⟩
theorem ii_H : Cond.initialized "RedoQuorum$Cache" ∈ lw_tbl ∧ q_mv (Cond.initialized "RedoQuorum$Cache") = true := ⟨wd_6, by decide +kernel⟩
theorem ii_M : Cond.initialized "RedoQuorumModel" ∈ lw_tbl ∧ q_mv (Cond.initialized "RedoQuorumModel") = true := ⟨wd_7, by decide +kernel⟩
theorem cl_W7 : Cond.classLink "RedoQuorumLaw" 7 "RedoQuorum" ∈ lw_tbl ∧ q_mv (Cond.classLink "RedoQuorumLaw" 7 "RedoQuorum") = true := ⟨wd_9, by decide +kernel⟩
theorem is_Q : Cond.instantiable "RedoQuorum" 7 ∈ lw_tbl ∧ q_mv (Cond.instantiable "RedoQuorum" 7) = true := ⟨wd_10, by decide +kernel⟩
theorem cl_Q7 : Cond.classLink "RedoQuorum" 7 "RedoQuorum$Log" ∈ lw_tbl ∧ q_mv (Cond.classLink "RedoQuorum" 7 "RedoQuorum$Log") = true := ⟨wd_17, by decide +kernel⟩
theorem is_L : Cond.instantiable "RedoQuorum$Log" 7 ∈ lw_tbl ∧ q_mv (Cond.instantiable "RedoQuorum$Log" 7) = true := ⟨wd_18, by decide +kernel⟩
theorem cl_Q16 : Cond.classLink "RedoQuorum" 16 "RedoQuorum$Transactions" ∈ lw_tbl ∧ q_mv (Cond.classLink "RedoQuorum" 16 "RedoQuorum$Transactions") = true := ⟨wd_51, by decide +kernel⟩
theorem is_T : Cond.instantiable "RedoQuorum$Transactions" 4 ∈ lw_tbl ∧ q_mv (Cond.instantiable "RedoQuorum$Transactions" 4) = true := ⟨wd_52, by decide +kernel⟩
theorem cl_Q23 : Cond.classLink "RedoQuorum" 23 "RedoQuorum$Group" ∈ lw_tbl ∧ q_mv (Cond.classLink "RedoQuorum" 23 "RedoQuorum$Group") = true := ⟨wd_72, by decide +kernel⟩
theorem is_G : Cond.instantiable "RedoQuorum$Group" 1 ∈ lw_tbl ∧ q_mv (Cond.instantiable "RedoQuorum$Group" 1) = true := ⟨wd_74, by decide +kernel⟩
theorem cl_G9 : Cond.classLink "RedoQuorum$Group" 9 "RedoQuorum$StorageCopy" ∈ lw_tbl ∧ q_mv (Cond.classLink "RedoQuorum$Group" 9 "RedoQuorum$StorageCopy") = true := ⟨wd_79, by decide +kernel⟩
theorem is_C : Cond.instantiable "RedoQuorum$StorageCopy" 5 ∈ lw_tbl ∧ q_mv (Cond.instantiable "RedoQuorum$StorageCopy" 5) = true := ⟨wd_81, by decide +kernel⟩
theorem cl_Q32 : Cond.classLink "RedoQuorum" 32 "RedoQuorum$Cache" ∈ lw_tbl ∧ q_mv (Cond.classLink "RedoQuorum" 32 "RedoQuorum$Cache") = true := ⟨wd_112, by decide +kernel⟩
theorem is_H : Cond.instantiable "RedoQuorum$Cache" 2 ∈ lw_tbl ∧ q_mv (Cond.instantiable "RedoQuorum$Cache" 2) = true := ⟨wd_113, by decide +kernel⟩
theorem cl_W10 : Cond.classLink "RedoQuorumLaw" 10 "RedoQuorumModel" ∈ lw_tbl ∧ q_mv (Cond.classLink "RedoQuorumLaw" 10 "RedoQuorumModel") = true := ⟨wd_499, by decide +kernel⟩
theorem is_M : Cond.instantiable "RedoQuorumModel" 18 ∈ lw_tbl ∧ q_mv (Cond.instantiable "RedoQuorumModel" 18) = true := ⟨wd_500, by decide +kernel⟩
def M_W_law : qM := (x, code, 4, some .boolean)
