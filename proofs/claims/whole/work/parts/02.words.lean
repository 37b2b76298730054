/-- the words of the tables that go from a method to its callees -/
def lwT : List Cond := lw_tbl.filter goodWord
theorem lwT_sub : ∀ w ∈ lwT, w ∈ lw_tbl := fun _ h => (List.mem_filter.mp h).1
theorem lwT_good : ∀ w ∈ lwT, (w.onTables && w.keeps) = true ∨ ∃ ty, w = .arrayClass ty := fun _ h => good_of_word (List.mem_filter.mp h).2
theorem lwT_tbl {w : Cond} (h : w ∈ tables_1) (g : goodWord w = true) : w ∈ lwT := List.mem_filter.mpr ⟨List.mem_append_right _ h, g⟩
theorem inT1 {w : Cond} (i : Nat) (h : tables_1_1[i]? = some w) (g : goodWord w = true) : w ∈ lwT := lwT_tbl (List.mem_append_left _ (List.mem_of_getElem? h)) g
theorem inT2 {w : Cond} (i : Nat) (h : tables_1_2[i]? = some w) (g : goodWord w = true) : w ∈ lwT := lwT_tbl (List.mem_append_right _ (List.mem_append_left _ (List.mem_of_getElem? h))) g
theorem inT3 {w : Cond} (i : Nat) (h : tables_1_3[i]? = some w) (g : goodWord w = true) : w ∈ lwT := lwT_tbl (List.mem_append_right _ (List.mem_append_right _ (List.mem_append_left _ (List.mem_of_getElem? h)))) g
theorem inT4 {w : Cond} (i : Nat) (h : tables_1_4[i]? = some w) (g : goodWord w = true) : w ∈ lwT := lwT_tbl (List.mem_append_right _ (List.mem_append_right _ (List.mem_append_right _ (List.mem_append_left _ (List.mem_of_getElem? h))))) g
theorem inT5 {w : Cond} (i : Nat) (h : tables_1_5[i]? = some w) (g : goodWord w = true) : w ∈ lwT := lwT_tbl (List.mem_append_right _ (List.mem_append_right _ (List.mem_append_right _ (List.mem_append_right _ (List.mem_of_getElem? h))))) g
theorem inSel {q : MethodName × Nat} (h : q ∈ lw_privs) (g : goodWord (Cond.selects q.1.cls q.1 q.1) = true) : Cond.selects q.1.cls q.1 q.1 ∈ lwT := List.mem_filter.mpr ⟨List.mem_append_left _ (List.mem_map.mpr ⟨q, h, rfl⟩), g⟩
theorem inS1 {q : MethodName × Nat} (i : Nat) (h : lw_privs_1[i]? = some q) : q ∈ lw_privs := List.mem_append_left _ (List.mem_of_getElem? h)
theorem inS2 {q : MethodName × Nat} (i : Nat) (h : lw_privs_2[i]? = some q) : q ∈ lw_privs := List.mem_append_right _ (List.mem_append_left _ (List.mem_of_getElem? h))
theorem inS3 {q : MethodName × Nat} (i : Nat) (h : lw_privs_3[i]? = some q) : q ∈ lw_privs := List.mem_append_right _ (List.mem_append_right _ (List.mem_append_left _ (List.mem_of_getElem? h)))
theorem inS4 {q : MethodName × Nat} (i : Nat) (h : lw_privs_4[i]? = some q) : q ∈ lw_privs := List.mem_append_right _ (List.mem_append_right _ (List.mem_append_right _ (List.mem_append_left _ (List.mem_of_getElem? h))))
theorem inS5 {q : MethodName × Nat} (i : Nat) (h : lw_privs_5[i]? = some q) : q ∈ lw_privs := List.mem_append_right _ (List.mem_append_right _ (List.mem_append_right _ (List.mem_append_right _ (List.mem_of_getElem? h))))
theorem q_0 : Cond.initialized "FoldedStripLaw" ∈ lwT := inT1 0 rfl rfl
theorem q_1 : Cond.initialized "FoldedStrip" ∈ lwT := inT1 1 rfl rfl
theorem q_2 : Cond.initialized "FoldedStrip$Page" ∈ lwT := inT1 2 rfl rfl
theorem q_3 : Cond.initialized "FoldedStrip$Folds" ∈ lwT := inT1 3 rfl rfl
theorem q_4 : Cond.initialized "FoldedStrip$Pile" ∈ lwT := inT1 4 rfl rfl
theorem q_5 : Cond.initialized "FoldedStrip$Verdicts" ∈ lwT := inT1 5 rfl rfl
theorem q_6 : Cond.initialized "FoldedStrip$Paths" ∈ lwT := inT1 6 rfl rfl
theorem q_7 : Cond.initialized "FoldedStrip$Needle" ∈ lwT := inT1 7 rfl rfl
theorem q_8 : Cond.initialized "FoldedStripModel" ∈ lwT := inT1 8 rfl rfl
theorem q_9 : Cond.initialized "java/lang/String" ∈ lwT := inT1 9 rfl rfl
theorem q_10 : Cond.initialized "java/lang/StringLatin1" ∈ lwT := inT1 10 rfl rfl
theorem q_11 : Cond.initialized "java/lang/Math" ∈ lwT := inT1 11 rfl rfl
theorem q_12 : Cond.initialized "java/lang/StringUTF16" ∈ lwT := inT1 12 rfl rfl
theorem q_13 : Cond.initialized "jdk/internal/util/Preconditions" ∈ lwT := inT1 13 rfl rfl
theorem q_14 : Cond.initialized "java/lang/Character" ∈ lwT := inT1 14 rfl rfl
theorem q_15 : Cond.classLink "FoldedStripLaw" 7 "FoldedStrip" ∈ lwT := inT1 15 rfl rfl
theorem q_16 : Cond.instantiable "FoldedStrip" 9 ∈ lwT := inT1 16 rfl rfl
theorem q_17 : Cond.methodLink "FoldedStripLaw" 9 yX6_init ∈ lwT := inT1 17 rfl rfl
theorem q_18 : Cond.instanceMethod yX6_init ∈ lwT := inT1 18 rfl rfl
theorem q_19 : Cond.code yX6_init cX6_init 1 (Option.none : Option Jvm.ClassFile.FieldType) ∈ lwT := inT1 19 rfl rfl
theorem q_20 : Cond.methodLink "FoldedStrip" 1 (⟨"java/lang/Object", "<init>", "()V"⟩ : MethodName) ∈ lwT := inT1 20 rfl rfl
theorem q_21 : Cond.instanceMethod (⟨"java/lang/Object", "<init>", "()V"⟩ : MethodName) ∈ lwT := inT1 21 rfl rfl
theorem q_22 : Cond.code (⟨"java/lang/Object", "<init>", "()V"⟩ : MethodName) object_method_1_code 1 (Option.none : Option Jvm.ClassFile.FieldType) ∈ lwT := inT1 22 rfl rfl
theorem q_23 : Cond.classLink "FoldedStrip" 7 "FoldedStrip$Page" ∈ lwT := inT1 23 rfl rfl
theorem q_24 : Cond.instantiable "FoldedStrip$Page" 2 ∈ lwT := inT1 24 rfl rfl
theorem q_26 : Cond.instanceMethod yX2_init ∈ lwT := inT1 26 rfl rfl
theorem q_27 : Cond.code yX2_init cX2_init 1 (Option.none : Option Jvm.ClassFile.FieldType) ∈ lwT := inT1 27 rfl rfl
theorem q_28 : Cond.methodLink "FoldedStrip$Page" 3 (⟨"java/lang/Object", "<init>", "()V"⟩ : MethodName) ∈ lwT := inT1 28 rfl rfl
theorem q_29 : Cond.fieldLink "FoldedStrip$Page" 9 "FoldedStrip$Page" "codes" "[I" ∈ lwT := inT1 29 rfl rfl
theorem q_30 : Cond.fieldLink "FoldedStrip" 233 "FoldedStrip$Page" "codes" "[I" ∈ lwT := inT1 30 rfl rfl
theorem q_31 : Cond.fieldLink "FoldedStrip$Page" 15 "FoldedStrip$Page" "size" "I" ∈ lwT := inT1 31 rfl rfl
theorem q_32 : Cond.fieldLink "FoldedStrip" 72 "FoldedStrip$Page" "size" "I" ∈ lwT := inT1 32 rfl rfl
theorem q_33 : Cond.laysFinal "FoldedStrip$Page" "FoldedStrip$Page" "codes" "[I" ∈ lwT := inT1 33 rfl rfl
theorem q_35 : Cond.lays "FoldedStrip$Page" "FoldedStrip$Page" "size" "I" ∈ lwT := inT1 35 rfl rfl
theorem q_37 : Cond.superclass "FoldedStrip$Page" "java/lang/Object" ∈ lwT := inT1 37 rfl rfl
theorem q_38 : Cond.arrayClass FieldType.int ∈ lwT := inT1 38 rfl rfl
theorem q_39 : Cond.classLink "FoldedStrip" 16 "FoldedStrip$Folds" ∈ lwT := inT1 39 rfl rfl
theorem q_40 : Cond.instantiable "FoldedStrip$Folds" 5 ∈ lwT := inT1 40 rfl rfl
theorem q_42 : Cond.instanceMethod yX0_init ∈ lwT := inT1 42 rfl rfl
theorem q_43 : Cond.code yX0_init cX0_init 1 (Option.none : Option Jvm.ClassFile.FieldType) ∈ lwT := inT1 43 rfl rfl
theorem q_44 : Cond.methodLink "FoldedStrip$Folds" 3 (⟨"java/lang/Object", "<init>", "()V"⟩ : MethodName) ∈ lwT := inT1 44 rfl rfl
theorem q_45 : Cond.fieldLink "FoldedStrip$Folds" 9 "FoldedStrip$Folds" "leaves" "I" ∈ lwT := inT1 45 rfl rfl
theorem q_46 : Cond.fieldLink "FoldedStrip$Needle" 37 "FoldedStrip$Folds" "leaves" "I" ∈ lwT := inT1 46 rfl rfl
theorem q_47 : Cond.fieldLink "FoldedStrip$Paths" 43 "FoldedStrip$Folds" "leaves" "I" ∈ lwT := inT1 47 rfl rfl
theorem q_48 : Cond.fieldLink "FoldedStrip" 102 "FoldedStrip$Folds" "leaves" "I" ∈ lwT := inT1 48 rfl rfl
theorem q_49 : Cond.fieldLink "FoldedStrip$Verdicts" 47 "FoldedStrip$Folds" "leaves" "I" ∈ lwT := inT1 49 rfl rfl
theorem q_50 : Cond.fieldLink "FoldedStrip$Folds" 15 "FoldedStrip$Folds" "size" "I" ∈ lwT := inT1 50 rfl rfl
theorem q_51 : Cond.fieldLink "FoldedStrip$Paths" 38 "FoldedStrip$Folds" "size" "I" ∈ lwT := inT1 51 rfl rfl
theorem q_52 : Cond.fieldLink "FoldedStrip$Needle" 23 "FoldedStrip$Folds" "size" "I" ∈ lwT := inT1 52 rfl rfl
theorem q_53 : Cond.fieldLink "FoldedStrip$Verdicts" 30 "FoldedStrip$Folds" "size" "I" ∈ lwT := inT1 53 rfl rfl
theorem q_54 : Cond.fieldLink "FoldedStrip" 156 "FoldedStrip$Folds" "size" "I" ∈ lwT := inT1 54 rfl rfl
theorem q_55 : Cond.fieldLink "FoldedStrip$Folds" 18 "FoldedStrip$Folds" "leafCodes" "[I" ∈ lwT := inT1 55 rfl rfl
theorem q_56 : Cond.fieldLink "FoldedStrip$Folds" 22 "FoldedStrip$Folds" "placeCodes" "[I" ∈ lwT := inT1 56 rfl rfl
theorem q_57 : Cond.fieldLink "FoldedStrip$Folds" 25 "FoldedStrip$Folds" "placeNow" "[I" ∈ lwT := inT1 57 rfl rfl
theorem q_58 : Cond.lays "FoldedStrip$Folds" "FoldedStrip$Folds" "leaves" "I" ∈ lwT := inT1 58 rfl rfl
theorem q_60 : Cond.lays "FoldedStrip$Folds" "FoldedStrip$Folds" "size" "I" ∈ lwT := inT1 60 rfl rfl
theorem q_62 : Cond.laysFinal "FoldedStrip$Folds" "FoldedStrip$Folds" "leafCodes" "[I" ∈ lwT := inT1 62 rfl rfl
theorem q_64 : Cond.laysFinal "FoldedStrip$Folds" "FoldedStrip$Folds" "placeCodes" "[I" ∈ lwT := inT1 64 rfl rfl
theorem q_66 : Cond.laysFinal "FoldedStrip$Folds" "FoldedStrip$Folds" "placeNow" "[I" ∈ lwT := inT1 66 rfl rfl
theorem q_68 : Cond.superclass "FoldedStrip$Folds" "java/lang/Object" ∈ lwT := inT1 68 rfl rfl
theorem q_69 : Cond.classLink "FoldedStrip" 23 "FoldedStrip$Pile" ∈ lwT := inT1 69 rfl rfl
theorem q_70 : Cond.instantiable "FoldedStrip$Pile" 7 ∈ lwT := inT1 70 rfl rfl
theorem q_72 : Cond.instanceMethod yX4_init ∈ lwT := inT1 72 rfl rfl
theorem q_73 : Cond.code yX4_init cX4_init 1 (Option.none : Option Jvm.ClassFile.FieldType) ∈ lwT := inT1 73 rfl rfl
theorem q_74 : Cond.methodLink "FoldedStrip$Pile" 3 (⟨"java/lang/Object", "<init>", "()V"⟩ : MethodName) ∈ lwT := inT1 74 rfl rfl
theorem q_75 : Cond.fieldLink "FoldedStrip$Pile" 9 "FoldedStrip$Pile" "kinds" "[I" ∈ lwT := inT1 75 rfl rfl
theorem q_76 : Cond.fieldLink "FoldedStrip" 35 "FoldedStrip$Pile" "kinds" "[I" ∈ lwT := inT1 76 rfl rfl
theorem q_77 : Cond.fieldLink "FoldedStrip$Pile" 15 "FoldedStrip$Pile" "order" "I" ∈ lwT := inT1 77 rfl rfl
theorem q_78 : Cond.fieldLink "FoldedStrip" 90 "FoldedStrip$Pile" "order" "I" ∈ lwT := inT1 78 rfl rfl
theorem q_79 : Cond.fieldLink "FoldedStrip$Pile" 19 "FoldedStrip$Pile" "moves" "I" ∈ lwT := inT1 79 rfl rfl
theorem q_80 : Cond.fieldLink "FoldedStrip" 93 "FoldedStrip$Pile" "moves" "I" ∈ lwT := inT1 80 rfl rfl
theorem q_81 : Cond.fieldLink "FoldedStrip$Pile" 22 "FoldedStrip$Pile" "seen" "I" ∈ lwT := inT1 81 rfl rfl
theorem q_82 : Cond.fieldLink "FoldedStrip$Needle" 53 "FoldedStrip$Pile" "seen" "I" ∈ lwT := inT1 82 rfl rfl
theorem q_83 : Cond.fieldLink "FoldedStrip" 96 "FoldedStrip$Pile" "seen" "I" ∈ lwT := inT1 83 rfl rfl
theorem q_84 : Cond.fieldLink "FoldedStrip$Pile" 25 "FoldedStrip$Pile" "seenLeaf" "[I" ∈ lwT := inT1 84 rfl rfl
theorem q_85 : Cond.fieldLink "FoldedStrip$Needle" 58 "FoldedStrip$Pile" "seenLeaf" "[I" ∈ lwT := inT1 85 rfl rfl
theorem q_86 : Cond.fieldLink "FoldedStrip$Pile" 28 "FoldedStrip$Pile" "seenDeep" "[I" ∈ lwT := inT1 86 rfl rfl
theorem q_87 : Cond.fieldLink "FoldedStrip$Needle" 61 "FoldedStrip$Pile" "seenDeep" "[I" ∈ lwT := inT1 87 rfl rfl
theorem q_88 : Cond.fieldLink "FoldedStrip$Pile" 31 "FoldedStrip$Pile" "seenThrough" "[Z" ∈ lwT := inT1 88 rfl rfl
theorem q_89 : Cond.fieldLink "FoldedStrip$Needle" 64 "FoldedStrip$Pile" "seenThrough" "[Z" ∈ lwT := inT1 89 rfl rfl
theorem q_90 : Cond.laysFinal "FoldedStrip$Pile" "FoldedStrip$Pile" "kinds" "[I" ∈ lwT := inT1 90 rfl rfl
theorem q_92 : Cond.lays "FoldedStrip$Pile" "FoldedStrip$Pile" "order" "I" ∈ lwT := inT1 92 rfl rfl
theorem q_94 : Cond.lays "FoldedStrip$Pile" "FoldedStrip$Pile" "moves" "I" ∈ lwT := inT1 94 rfl rfl
theorem q_96 : Cond.lays "FoldedStrip$Pile" "FoldedStrip$Pile" "seen" "I" ∈ lwT := inT1 96 rfl rfl
theorem q_98 : Cond.laysFinal "FoldedStrip$Pile" "FoldedStrip$Pile" "seenLeaf" "[I" ∈ lwT := inT1 98 rfl rfl
theorem q_100 : Cond.laysFinal "FoldedStrip$Pile" "FoldedStrip$Pile" "seenDeep" "[I" ∈ lwT := inT1 100 rfl rfl
theorem q_102 : Cond.laysFinal "FoldedStrip$Pile" "FoldedStrip$Pile" "seenThrough" "[Z" ∈ lwT := inT1 102 rfl rfl
theorem q_104 : Cond.superclass "FoldedStrip$Pile" "java/lang/Object" ∈ lwT := inT1 104 rfl rfl
theorem q_105 : Cond.arrayClass FieldType.boolean ∈ lwT := inT1 105 rfl rfl
theorem q_106 : Cond.classLink "FoldedStrip" 33 "FoldedStrip$Verdicts" ∈ lwT := inT1 106 rfl rfl
theorem q_107 : Cond.instantiable "FoldedStrip$Verdicts" 5 ∈ lwT := inT1 107 rfl rfl
theorem q_108 : Cond.methodLink "FoldedStrip" 39 yX5_init ∈ lwT := inT1 108 rfl rfl
theorem q_109 : Cond.instanceMethod yX5_init ∈ lwT := inT1 109 rfl rfl
theorem q_110 : Cond.code yX5_init cX5_init 3 (Option.none : Option Jvm.ClassFile.FieldType) ∈ lwT := inT1 110 rfl rfl
theorem q_111 : Cond.methodLink "FoldedStrip$Verdicts" 3 (⟨"java/lang/Object", "<init>", "()V"⟩ : MethodName) ∈ lwT := inT1 111 rfl rfl
theorem q_112 : Cond.fieldLink "FoldedStrip$Verdicts" 9 "FoldedStrip$Verdicts" "fits" "I" ∈ lwT := inT1 112 rfl rfl
theorem q_113 : Cond.fieldLink "FoldedStrip" 157 "FoldedStrip$Verdicts" "fits" "I" ∈ lwT := inT1 113 rfl rfl
theorem q_114 : Cond.fieldLink "FoldedStrip$Verdicts" 23 "FoldedStrip$Verdicts" "folds" "LFoldedStrip$Folds;" ∈ lwT := inT1 114 rfl rfl
theorem q_115 : Cond.fieldLink "FoldedStrip$Verdicts" 27 "FoldedStrip$Verdicts" "kinds" "[I" ∈ lwT := inT1 115 rfl rfl
theorem q_116 : Cond.fieldLink "FoldedStrip$Verdicts" 15 "FoldedStrip$Verdicts" "fit" "[Z" ∈ lwT := inT1 116 rfl rfl
theorem q_117 : Cond.fieldLink "FoldedStrip$Verdicts" 19 "FoldedStrip$Verdicts" "widest" "[I" ∈ lwT := inT1 117 rfl rfl
theorem q_118 : Cond.lays "FoldedStrip$Verdicts" "FoldedStrip$Verdicts" "fits" "I" ∈ lwT := inT1 118 rfl rfl
theorem q_120 : Cond.laysFinal "FoldedStrip$Verdicts" "FoldedStrip$Verdicts" "folds" "LFoldedStrip$Folds;" ∈ lwT := inT1 120 rfl rfl
theorem q_122 : Cond.laysFinal "FoldedStrip$Verdicts" "FoldedStrip$Verdicts" "kinds" "[I" ∈ lwT := inT1 122 rfl rfl
theorem q_124 : Cond.laysFinal "FoldedStrip$Verdicts" "FoldedStrip$Verdicts" "fit" "[Z" ∈ lwT := inT1 124 rfl rfl
theorem q_126 : Cond.laysFinal "FoldedStrip$Verdicts" "FoldedStrip$Verdicts" "widest" "[I" ∈ lwT := inT1 126 rfl rfl
theorem q_128 : Cond.superclass "FoldedStrip$Verdicts" "java/lang/Object" ∈ lwT := inT1 128 rfl rfl
theorem q_129 : Cond.classLink "FoldedStrip" 46 "FoldedStrip$Paths" ∈ lwT := inT1 129 rfl rfl
theorem q_130 : Cond.instantiable "FoldedStrip$Paths" 8 ∈ lwT := inT1 130 rfl rfl
theorem q_131 : Cond.methodLink "FoldedStrip" 48 yX3_init ∈ lwT := inT1 131 rfl rfl
theorem q_132 : Cond.instanceMethod yX3_init ∈ lwT := inT1 132 rfl rfl
theorem q_133 : Cond.code yX3_init cX3_init 2 (Option.none : Option Jvm.ClassFile.FieldType) ∈ lwT := inT1 133 rfl rfl
theorem q_134 : Cond.methodLink "FoldedStrip$Paths" 3 (⟨"java/lang/Object", "<init>", "()V"⟩ : MethodName) ∈ lwT := inT1 134 rfl rfl
theorem q_135 : Cond.fieldLink "FoldedStrip$Paths" 34 "FoldedStrip$Paths" "folds" "LFoldedStrip$Folds;" ∈ lwT := inT1 135 rfl rfl
theorem q_136 : Cond.fieldLink "FoldedStrip$Paths" 9 "FoldedStrip$Paths" "leaves" "I" ∈ lwT := inT1 136 rfl rfl
theorem q_137 : Cond.fieldLink "FoldedStrip$Paths" 15 "FoldedStrip$Paths" "start" "I" ∈ lwT := inT1 137 rfl rfl
theorem q_138 : Cond.fieldLink "FoldedStrip$Paths" 18 "FoldedStrip$Paths" "steps" "I" ∈ lwT := inT1 138 rfl rfl
theorem q_139 : Cond.fieldLink "FoldedStrip$Paths" 21 "FoldedStrip$Paths" "firstStep" "[I" ∈ lwT := inT1 139 rfl rfl
theorem q_140 : Cond.fieldLink "FoldedStrip$Paths" 25 "FoldedStrip$Paths" "stepTo" "[I" ∈ lwT := inT1 140 rfl rfl
theorem q_141 : Cond.fieldLink "FoldedStrip$Paths" 28 "FoldedStrip$Paths" "distances" "[I" ∈ lwT := inT1 141 rfl rfl
theorem q_142 : Cond.fieldLink "FoldedStrip$Paths" 31 "FoldedStrip$Paths" "queue" "[I" ∈ lwT := inT1 142 rfl rfl
theorem q_143 : Cond.laysFinal "FoldedStrip$Paths" "FoldedStrip$Paths" "folds" "LFoldedStrip$Folds;" ∈ lwT := inT1 143 rfl rfl
theorem q_145 : Cond.lays "FoldedStrip$Paths" "FoldedStrip$Paths" "leaves" "I" ∈ lwT := inT1 145 rfl rfl
theorem q_147 : Cond.lays "FoldedStrip$Paths" "FoldedStrip$Paths" "start" "I" ∈ lwT := inT1 147 rfl rfl
theorem q_149 : Cond.lays "FoldedStrip$Paths" "FoldedStrip$Paths" "steps" "I" ∈ lwT := inT1 149 rfl rfl
theorem q_151 : Cond.laysFinal "FoldedStrip$Paths" "FoldedStrip$Paths" "firstStep" "[I" ∈ lwT := inT1 151 rfl rfl
theorem q_153 : Cond.laysFinal "FoldedStrip$Paths" "FoldedStrip$Paths" "stepTo" "[I" ∈ lwT := inT1 153 rfl rfl
theorem q_155 : Cond.laysFinal "FoldedStrip$Paths" "FoldedStrip$Paths" "distances" "[I" ∈ lwT := inT1 155 rfl rfl
theorem q_157 : Cond.laysFinal "FoldedStrip$Paths" "FoldedStrip$Paths" "queue" "[I" ∈ lwT := inT1 157 rfl rfl
theorem q_159 : Cond.superclass "FoldedStrip$Paths" "java/lang/Object" ∈ lwT := inT1 159 rfl rfl
theorem q_160 : Cond.classLink "FoldedStrip" 55 "FoldedStrip$Needle" ∈ lwT := inT1 160 rfl rfl
theorem q_161 : Cond.instantiable "FoldedStrip$Needle" 3 ∈ lwT := inT1 161 rfl rfl
theorem q_162 : Cond.methodLink "FoldedStrip" 57 yX1_init ∈ lwT := inT1 162 rfl rfl
theorem q_163 : Cond.instanceMethod yX1_init ∈ lwT := inT1 163 rfl rfl
theorem q_164 : Cond.code yX1_init cX1_init 3 (Option.none : Option Jvm.ClassFile.FieldType) ∈ lwT := inT1 164 rfl rfl
theorem q_165 : Cond.methodLink "FoldedStrip$Needle" 3 (⟨"java/lang/Object", "<init>", "()V"⟩ : MethodName) ∈ lwT := inT1 165 rfl rfl
theorem q_166 : Cond.fieldLink "FoldedStrip$Needle" 15 "FoldedStrip$Needle" "folds" "LFoldedStrip$Folds;" ∈ lwT := inT1 166 rfl rfl
theorem q_167 : Cond.fieldLink "FoldedStrip$Needle" 19 "FoldedStrip$Needle" "pile" "LFoldedStrip$Pile;" ∈ lwT := inT1 167 rfl rfl
theorem q_168 : Cond.fieldLink "FoldedStrip$Needle" 9 "FoldedStrip$Needle" "through" "[I" ∈ lwT := inT1 168 rfl rfl
theorem q_169 : Cond.laysFinal "FoldedStrip$Needle" "FoldedStrip$Needle" "folds" "LFoldedStrip$Folds;" ∈ lwT := inT1 169 rfl rfl
theorem q_171 : Cond.laysFinal "FoldedStrip$Needle" "FoldedStrip$Needle" "pile" "LFoldedStrip$Pile;" ∈ lwT := inT1 171 rfl rfl
theorem q_173 : Cond.laysFinal "FoldedStrip$Needle" "FoldedStrip$Needle" "through" "[I" ∈ lwT := inT1 173 rfl rfl
theorem q_175 : Cond.superclass "FoldedStrip$Needle" "java/lang/Object" ∈ lwT := inT1 175 rfl rfl
theorem q_176 : Cond.fieldLink "FoldedStrip" 10 "FoldedStrip" "page" "LFoldedStrip$Page;" ∈ lwT := inT1 176 rfl rfl
theorem q_177 : Cond.fieldLink "FoldedStrip" 19 "FoldedStrip" "folds" "LFoldedStrip$Folds;" ∈ lwT := inT1 177 rfl rfl
theorem q_178 : Cond.fieldLink "FoldedStrip" 26 "FoldedStrip" "now" "LFoldedStrip$Pile;" ∈ lwT := inT1 178 rfl rfl
theorem q_179 : Cond.fieldLink "FoldedStrip" 30 "FoldedStrip" "kept" "LFoldedStrip$Pile;" ∈ lwT := inT1 179 rfl rfl
theorem q_180 : Cond.fieldLink "FoldedStrip" 42 "FoldedStrip" "verdicts" "LFoldedStrip$Verdicts;" ∈ lwT := inT1 180 rfl rfl
theorem q_181 : Cond.fieldLink "FoldedStrip" 51 "FoldedStrip" "paths" "LFoldedStrip$Paths;" ∈ lwT := inT1 181 rfl rfl
theorem q_182 : Cond.fieldLink "FoldedStrip" 60 "FoldedStrip" "needle" "LFoldedStrip$Needle;" ∈ lwT := inT1 182 rfl rfl
theorem q_183 : Cond.fieldLink "FoldedStrip" 64 "FoldedStrip" "imageKept" "Z" ∈ lwT := inT1 183 rfl rfl
theorem q_184 : Cond.fieldLink "FoldedStrip" 68 "FoldedStrip" "stripsRead" "I" ∈ lwT := inT1 184 rfl rfl
theorem q_185 : Cond.laysFinal "FoldedStrip" "FoldedStrip" "page" "LFoldedStrip$Page;" ∈ lwT := inT1 185 rfl rfl
theorem q_187 : Cond.laysFinal "FoldedStrip" "FoldedStrip" "folds" "LFoldedStrip$Folds;" ∈ lwT := inT1 187 rfl rfl
theorem q_189 : Cond.laysFinal "FoldedStrip" "FoldedStrip" "now" "LFoldedStrip$Pile;" ∈ lwT := inT1 189 rfl rfl
theorem q_191 : Cond.laysFinal "FoldedStrip" "FoldedStrip" "kept" "LFoldedStrip$Pile;" ∈ lwT := inT1 191 rfl rfl
theorem q_193 : Cond.laysFinal "FoldedStrip" "FoldedStrip" "verdicts" "LFoldedStrip$Verdicts;" ∈ lwT := inT1 193 rfl rfl
theorem q_195 : Cond.laysFinal "FoldedStrip" "FoldedStrip" "paths" "LFoldedStrip$Paths;" ∈ lwT := inT1 195 rfl rfl
theorem q_197 : Cond.laysFinal "FoldedStrip" "FoldedStrip" "needle" "LFoldedStrip$Needle;" ∈ lwT := inT1 197 rfl rfl
theorem q_199 : Cond.lays "FoldedStrip" "FoldedStrip" "imageKept" "Z" ∈ lwT := inT1 199 rfl rfl
theorem q_201 : Cond.lays "FoldedStrip" "FoldedStrip" "stripsRead" "I" ∈ lwT := inT1 201 rfl rfl
theorem q_203 : Cond.superclass "FoldedStrip" "java/lang/Object" ∈ lwT := inT1 203 rfl rfl
theorem q_204 : Cond.methodLink "FoldedStripLaw" 13 yX6_letter ∈ lwT := inT1 204 rfl rfl
theorem q_205 : Cond.instanceMethod yX6_letter ∈ lwT := inT1 205 rfl rfl
theorem q_206 : Cond.selects "FoldedStrip" yX6_letter yX6_letter ∈ lwT := inT1 206 rfl rfl
theorem q_207 : Cond.code yX6_letter cX6_letter 2 (Option.some FieldType.int) ∈ lwT := inT1 207 rfl rfl
theorem q_208 : Cond.methodLink "FoldedStrip" 75 yX2_add ∈ lwT := inT1 208 rfl rfl
theorem q_209 : Cond.instanceMethod yX2_add ∈ lwT := inT1 209 rfl rfl
theorem q_210 : Cond.selects "FoldedStrip$Page" yX2_add yX2_add ∈ lwT := inT1 210 rfl rfl
theorem q_211 : Cond.code yX2_add cX2_add 2 (Option.none : Option Jvm.ClassFile.FieldType) ∈ lwT := inT1 211 rfl rfl
theorem q_212 : Cond.methodLink "FoldedStripLaw" 18 yX6_blank ∈ lwT := inT1 212 rfl rfl
theorem q_213 : Cond.instanceMethod yX6_blank ∈ lwT := inT1 213 rfl rfl
theorem q_214 : Cond.selects "FoldedStrip" yX6_blank yX6_blank ∈ lwT := inT1 214 rfl rfl
theorem q_215 : Cond.code yX6_blank cX6_blank 2 (Option.some FieldType.int) ∈ lwT := inT1 215 rfl rfl
theorem q_216 : Cond.methodLink "FoldedStripLaw" 23 yX6_fault ∈ lwT := inT1 216 rfl rfl
theorem q_217 : Cond.instanceMethod yX6_fault ∈ lwT := inT1 217 rfl rfl
theorem q_218 : Cond.selects "FoldedStrip" yX6_fault yX6_fault ∈ lwT := inT1 218 rfl rfl
theorem q_219 : Cond.code yX6_fault cX6_fault 1 (Option.some FieldType.int) ∈ lwT := inT1 219 rfl rfl
theorem q_220 : Cond.methodLink "FoldedStrip" 79 yX2_firstWrong ∈ lwT := inT1 220 rfl rfl
theorem q_221 : Cond.instanceMethod yX2_firstWrong ∈ lwT := inT1 221 rfl rfl
theorem q_222 : Cond.selects "FoldedStrip$Page" yX2_firstWrong yX2_firstWrong ∈ lwT := inT1 222 rfl rfl
theorem q_223 : Cond.code yX2_firstWrong cX2_firstWrong 2 (Option.some FieldType.int) ∈ lwT := inT1 223 rfl rfl
theorem q_224 : Cond.methodLink "FoldedStrip$Page" 27 yX2_kindAt ∈ lwT := inT1 224 rfl rfl
theorem q_225 : Cond.instanceMethod yX2_kindAt ∈ lwT := inT1 225 rfl rfl
theorem q_226 : Cond.selects "FoldedStrip$Page" yX2_kindAt yX2_kindAt ∈ lwT := inT1 226 rfl rfl
theorem q_227 : Cond.code yX2_kindAt cX2_kindAt 2 (Option.some FieldType.int) ∈ lwT := inT1 227 rfl rfl
theorem q_229 : Cond.methodLink "FoldedStrip$Page" 21 yJ0_indexOf_0f7a4 ∈ lwT := inT1 229 rfl rfl
theorem q_230 : Cond.instanceMethod yJ0_indexOf_0f7a4 ∈ lwT := inT1 230 rfl rfl
theorem q_231 : Cond.selects "java/lang/String" yJ0_indexOf_0f7a4 yJ0_indexOf_0f7a4 ∈ lwT := inT1 231 rfl rfl
theorem q_232 : Cond.code yJ0_indexOf_0f7a4 cJ0_indexOf_0f7a4 2 (Option.some FieldType.int) ∈ lwT := inT1 232 rfl rfl
theorem q_233 : Cond.methodLink "java/lang/String" 633 yJ0_indexOf_7cf53 ∈ lwT := inT1 233 rfl rfl
theorem q_234 : Cond.instanceMethod yJ0_indexOf_7cf53 ∈ lwT := inT1 234 rfl rfl
theorem q_235 : Cond.selects "java/lang/String" yJ0_indexOf_7cf53 yJ0_indexOf_7cf53 ∈ lwT := inT1 235 rfl rfl
theorem q_236 : Cond.code yJ0_indexOf_7cf53 cJ0_indexOf_7cf53 3 (Option.some FieldType.int) ∈ lwT := inT1 236 rfl rfl
theorem q_237 : Cond.methodLink "java/lang/String" 492 yJ0_isLatin1_aae02 ∈ lwT := inT1 237 rfl rfl
theorem q_238 : Cond.instanceMethod yJ0_isLatin1_aae02 ∈ lwT := inT1 238 rfl rfl
theorem q_239 : Cond.selects "java/lang/String" yJ0_isLatin1_aae02 yJ0_isLatin1_aae02 ∈ lwT := inT1 239 rfl rfl
theorem q_240 : Cond.code yJ0_isLatin1_aae02 cJ0_isLatin1_aae02 1 (Option.some FieldType.boolean) ∈ lwT := inT2 0 rfl rfl
theorem q_241 : Cond.fieldLink "java/lang/String" 38 "java/lang/String" "COMPACT_STRINGS" "Z" ∈ lwT := inT2 1 rfl rfl
theorem q_243 : Cond.methodLink "java/lang/String" 505 yJ0_length_8abf5 ∈ lwT := inT2 3 rfl rfl
theorem q_244 : Cond.instanceMethod yJ0_length_8abf5 ∈ lwT := inT2 4 rfl rfl
theorem q_245 : Cond.selects "java/lang/String" yJ0_length_8abf5 yJ0_length_8abf5 ∈ lwT := inT2 5 rfl rfl
theorem q_246 : Cond.code yJ0_length_8abf5 cJ0_length_8abf5 1 (Option.some FieldType.int) ∈ lwT := inT2 6 rfl rfl
theorem q_247 : Cond.methodLink "java/lang/String" 335 yJ0_coder_7d493 ∈ lwT := inT2 7 rfl rfl
theorem q_248 : Cond.instanceMethod yJ0_coder_7d493 ∈ lwT := inT2 8 rfl rfl
theorem q_249 : Cond.selects "java/lang/String" yJ0_coder_7d493 yJ0_coder_7d493 ∈ lwT := inT2 9 rfl rfl
theorem q_250 : Cond.code yJ0_coder_7d493 cJ0_coder_7d493 1 (Option.some FieldType.byte) ∈ lwT := inT2 10 rfl rfl
theorem q_251 : Cond.methodLink "java/lang/String" 637 yJ1_indexOf_4cfef ∈ lwT := inT2 11 rfl rfl
theorem q_252 : Cond.static yJ1_indexOf_4cfef ∈ lwT := inT2 12 rfl rfl
theorem q_253 : Cond.code yJ1_indexOf_4cfef cJ1_indexOf_4cfef 4 (Option.some FieldType.int) ∈ lwT := inT2 13 rfl rfl
theorem q_254 : Cond.methodLink "java/lang/StringLatin1" 88 yJ1_canEncode_9a6ad ∈ lwT := inT2 14 rfl rfl
theorem q_255 : Cond.static yJ1_canEncode_9a6ad ∈ lwT := inT2 15 rfl rfl
theorem q_256 : Cond.code yJ1_canEncode_9a6ad cJ1_canEncode_9a6ad 1 (Option.some FieldType.boolean) ∈ lwT := inT2 16 rfl rfl
theorem q_257 : Cond.methodLink "java/lang/StringLatin1" 92 yJ9_max_7cf53 ∈ lwT := inT2 17 rfl rfl
theorem q_258 : Cond.static yJ9_max_7cf53 ∈ lwT := inT2 18 rfl rfl
theorem q_259 : Cond.code yJ9_max_7cf53 cJ9_max_7cf53 2 (Option.some FieldType.int) ∈ lwT := inT2 19 rfl rfl
theorem q_260 : Cond.methodLink "java/lang/StringLatin1" 38 yJ9_min_7cf53 ∈ lwT := inT2 20 rfl rfl
theorem q_261 : Cond.static yJ9_min_7cf53 ∈ lwT := inT2 21 rfl rfl
theorem q_262 : Cond.code yJ9_min_7cf53 cJ9_min_7cf53 2 (Option.some FieldType.int) ∈ lwT := inT2 22 rfl rfl
theorem q_263 : Cond.methodLink "java/lang/StringLatin1" 95 yJ1_indexOfChar_4cfef ∈ lwT := inT2 23 rfl rfl
theorem q_264 : Cond.static yJ1_indexOfChar_4cfef ∈ lwT := inT2 24 rfl rfl
theorem q_265 : Cond.code yJ1_indexOfChar_4cfef cJ1_indexOfChar_4cfef 6 (Option.some FieldType.int) ∈ lwT := inT2 25 rfl rfl
theorem q_266 : Cond.methodLink "java/lang/String" 640 yJ2_indexOf_4cfef ∈ lwT := inT2 26 rfl rfl
theorem q_267 : Cond.static yJ2_indexOf_4cfef ∈ lwT := inT2 27 rfl rfl
theorem q_268 : Cond.code yJ2_indexOf_4cfef cJ2_indexOf_4cfef 4 (Option.some FieldType.int) ∈ lwT := inT2 28 rfl rfl
theorem q_269 : Cond.methodLink "java/lang/StringUTF16" 224 yJ9_max_7cf53 ∈ lwT := inT2 29 rfl rfl
theorem q_270 : Cond.methodLink "java/lang/StringUTF16" 183 yJ9_min_7cf53 ∈ lwT := inT2 30 rfl rfl
theorem q_271 : Cond.constant "java/lang/StringUTF16" 227 (65536 : Int32) ∈ lwT := inT2 31 rfl rfl
theorem q_272 : Cond.methodLink "java/lang/StringUTF16" 228 yJ2_indexOfChar_4cfef ∈ lwT := inT2 32 rfl rfl
theorem q_273 : Cond.static yJ2_indexOfChar_4cfef ∈ lwT := inT2 33 rfl rfl
theorem q_274 : Cond.code yJ2_indexOfChar_4cfef cJ2_indexOfChar_4cfef 4 (Option.some FieldType.int) ∈ lwT := inT2 34 rfl rfl
theorem q_275 : Cond.methodLink "java/lang/StringUTF16" 96 yJ2_checkBoundsBeginEnd_d044e ∈ lwT := inT2 35 rfl rfl
theorem q_276 : Cond.static yJ2_checkBoundsBeginEnd_d044e ∈ lwT := inT2 36 rfl rfl
theorem q_277 : Cond.code yJ2_checkBoundsBeginEnd_d044e cJ2_checkBoundsBeginEnd_d044e 3 (Option.none : Option Jvm.ClassFile.FieldType) ∈ lwT := inT2 37 rfl rfl
theorem q_278 : Cond.methodLink "java/lang/StringUTF16" 48 yJ2_length_9d52b ∈ lwT := inT2 38 rfl rfl
theorem q_279 : Cond.static yJ2_length_9d52b ∈ lwT := inT2 39 rfl rfl
theorem q_280 : Cond.code yJ2_length_9d52b cJ2_length_9d52b 1 (Option.some FieldType.int) ∈ lwT := inT2 40 rfl rfl
theorem q_281 : Cond.methodLink "java/lang/StringUTF16" 241 yJ0_checkBoundsBeginEnd_23922 ∈ lwT := inT2 41 rfl rfl
theorem q_282 : Cond.static yJ0_checkBoundsBeginEnd_23922 ∈ lwT := inT2 42 rfl rfl
theorem q_283 : Cond.code yJ0_checkBoundsBeginEnd_23922 cJ0_checkBoundsBeginEnd_23922 3 (Option.none : Option Jvm.ClassFile.FieldType) ∈ lwT := inT2 43 rfl rfl
theorem q_284 : Cond.fieldLink "java/lang/String" 1053 "jdk/internal/util/Preconditions" "SIOOBE_FORMATTER" "Ljava/util/function/BiFunction;" ∈ lwT := inT2 44 rfl rfl
theorem q_286 : Cond.methodLink "java/lang/String" 1062 yJ3_checkFromToIndex_8c36e ∈ lwT := inT2 46 rfl rfl
theorem q_287 : Cond.static yJ3_checkFromToIndex_8c36e ∈ lwT := inT2 47 rfl rfl
theorem q_288 : Cond.code yJ3_checkFromToIndex_8c36e cJ3_checkFromToIndex_8c36e 4 (Option.some FieldType.int) ∈ lwT := inT2 48 rfl rfl
theorem q_289 : Cond.methodLink "java/lang/StringUTF16" 244 yJ2_indexOfCharUnsafe_4cfef ∈ lwT := inT2 49 rfl rfl
theorem q_290 : Cond.static yJ2_indexOfCharUnsafe_4cfef ∈ lwT := inT2 50 rfl rfl
theorem q_291 : Cond.code yJ2_indexOfCharUnsafe_4cfef cJ2_indexOfCharUnsafe_4cfef 5 (Option.some FieldType.int) ∈ lwT := inT2 51 rfl rfl
theorem q_292 : Cond.methodLink "java/lang/StringUTF16" 71 yJ2_getChar_3b067 ∈ lwT := inT2 52 rfl rfl
theorem q_293 : Cond.static yJ2_getChar_3b067 ∈ lwT := inT2 53 rfl rfl
theorem q_294 : Cond.code yJ2_getChar_3b067 cJ2_getChar_3b067 2 (Option.some FieldType.char) ∈ lwT := inT2 54 rfl rfl
theorem q_295 : Cond.fieldLink "java/lang/StringUTF16" 44 "java/lang/StringUTF16" "$assertionsDisabled" "Z" ∈ lwT := inT2 55 rfl rfl
theorem q_297 : Cond.fieldLink "java/lang/StringUTF16" 59 "java/lang/StringUTF16" "HI_BYTE_SHIFT" "I" ∈ lwT := inT2 57 rfl rfl
theorem q_299 : Cond.fieldLink "java/lang/StringUTF16" 63 "java/lang/StringUTF16" "LO_BYTE_SHIFT" "I" ∈ lwT := inT2 59 rfl rfl
theorem q_301 : Cond.methodLink "java/lang/StringUTF16" 232 yJ2_indexOfSupplementary_4cfef ∈ lwT := inT2 61 rfl rfl
theorem q_302 : Cond.static yJ2_indexOfSupplementary_4cfef ∈ lwT := inT2 62 rfl rfl
theorem q_303 : Cond.code yJ2_indexOfSupplementary_4cfef cJ2_indexOfSupplementary_4cfef 7 (Option.some FieldType.int) ∈ lwT := inT2 63 rfl rfl
theorem q_304 : Cond.methodLink "java/lang/StringUTF16" 164 yJ11_isValidCodePoint_9a6ad ∈ lwT := inT2 64 rfl rfl
theorem q_305 : Cond.static yJ11_isValidCodePoint_9a6ad ∈ lwT := inT2 65 rfl rfl
theorem q_306 : Cond.code yJ11_isValidCodePoint_9a6ad cJ11_isValidCodePoint_9a6ad 2 (Option.some FieldType.boolean) ∈ lwT := inT2 66 rfl rfl
theorem q_307 : Cond.methodLink "java/lang/StringUTF16" 157 yJ11_highSurrogate_5068e ∈ lwT := inT2 67 rfl rfl
theorem q_308 : Cond.static yJ11_highSurrogate_5068e ∈ lwT := inT2 68 rfl rfl
theorem q_309 : Cond.code yJ11_highSurrogate_5068e cJ11_highSurrogate_5068e 1 (Option.some FieldType.char) ∈ lwT := inT2 69 rfl rfl
theorem q_310 : Cond.constant "java/lang/Character" 110 (55232 : Int32) ∈ lwT := inT2 70 rfl rfl
theorem q_311 : Cond.methodLink "java/lang/StringUTF16" 161 yJ11_lowSurrogate_5068e ∈ lwT := inT2 71 rfl rfl
theorem q_312 : Cond.static yJ11_lowSurrogate_5068e ∈ lwT := inT2 72 rfl rfl
theorem q_313 : Cond.code yJ11_lowSurrogate_5068e cJ11_lowSurrogate_5068e 1 (Option.some FieldType.char) ∈ lwT := inT2 73 rfl rfl
theorem q_314 : Cond.constant "java/lang/Character" 76 (56320 : Int32) ∈ lwT := inT2 74 rfl rfl
theorem q_315 : Cond.arrayClass FieldType.byte ∈ lwT := inT2 75 rfl rfl
theorem q_316 : Cond.methodLink "FoldedStripLaw" 27 yX6_strip ∈ lwT := inT2 76 rfl rfl
theorem q_317 : Cond.instanceMethod yX6_strip ∈ lwT := inT2 77 rfl rfl
theorem q_318 : Cond.selects "FoldedStrip" yX6_strip yX6_strip ∈ lwT := inT2 78 rfl rfl
theorem q_319 : Cond.code yX6_strip cX6_strip 2 (Option.some FieldType.int) ∈ lwT := inT2 79 rfl rfl
theorem q_320 : Cond.methodLink "FoldedStrip" 83 yX2_kindAt ∈ lwT := inT2 80 rfl rfl
theorem q_321 : Cond.methodLink "FoldedStrip" 87 yX0_foldAll ∈ lwT := inT2 81 rfl rfl
theorem q_322 : Cond.instanceMethod yX0_foldAll ∈ lwT := inT2 82 rfl rfl
theorem q_323 : Cond.selects "FoldedStrip$Folds" yX0_foldAll yX0_foldAll ∈ lwT := inT2 83 rfl rfl
theorem q_324 : Cond.code yX0_foldAll cX0_foldAll 3 (Option.none : Option Jvm.ClassFile.FieldType) ∈ lwT := inT2 84 rfl rfl
theorem q_325 : Cond.methodLink "FoldedStrip$Folds" 28 yX0_addBelow ∈ lwT := inT2 85 rfl rfl
theorem q_326 : Cond.static yX0_addBelow ∈ lwT := inT2 86 rfl rfl
theorem q_327 : Cond.code yX0_addBelow cX0_addBelow 4 (Option.none : Option Jvm.ClassFile.FieldType) ∈ lwT := inT2 87 rfl rfl
theorem q_328 : Cond.methodLink "FoldedStrip$Folds" 56 yX0_keep ∈ lwT := inT2 88 rfl rfl
theorem q_330 : Cond.instanceMethod yX0_keep ∈ lwT := inT2 90 rfl rfl
theorem q_331 : Cond.code yX0_keep cX0_keep 4 (Option.none : Option Jvm.ClassFile.FieldType) ∈ lwT := inT2 91 rfl rfl
theorem q_332 : Cond.methodLink "FoldedStrip$Folds" 60 yX0_canComeNext ∈ lwT := inT2 92 rfl rfl
theorem q_334 : Cond.instanceMethod yX0_canComeNext ∈ lwT := inT2 94 rfl rfl
theorem q_335 : Cond.code yX0_canComeNext cX0_canComeNext 2 (Option.some FieldType.boolean) ∈ lwT := inT2 95 rfl rfl
theorem q_336 : Cond.methodLink "FoldedStrip$Folds" 64 yX0_crossesAbove ∈ lwT := inT2 96 rfl rfl
theorem q_338 : Cond.instanceMethod yX0_crossesAbove ∈ lwT := inT2 98 rfl rfl
theorem q_339 : Cond.code yX0_crossesAbove cX0_crossesAbove 6 (Option.some FieldType.boolean) ∈ lwT := inT2 99 rfl rfl
theorem q_340 : Cond.methodLink "FoldedStrip$Folds" 68 yX0_mateOf ∈ lwT := inT2 100 rfl rfl
theorem q_342 : Cond.instanceMethod yX0_mateOf ∈ lwT := inT2 102 rfl rfl
theorem q_343 : Cond.code yX0_mateOf cX0_mateOf 4 (Option.some FieldType.int) ∈ lwT := inT2 103 rfl rfl
theorem q_344 : Cond.methodLink "FoldedStrip$Folds" 53 yX0_shiftOf ∈ lwT := inT2 104 rfl rfl
theorem q_345 : Cond.static yX0_shiftOf ∈ lwT := inT2 105 rfl rfl
theorem q_346 : Cond.code yX0_shiftOf cX0_shiftOf 1 (Option.some FieldType.int) ∈ lwT := inT2 106 rfl rfl
theorem q_347 : Cond.methodLink "FoldedStrip" 99 yX5_judgeAll ∈ lwT := inT2 107 rfl rfl
theorem q_348 : Cond.instanceMethod yX5_judgeAll ∈ lwT := inT2 108 rfl rfl
theorem q_349 : Cond.selects "FoldedStrip$Verdicts" yX5_judgeAll yX5_judgeAll ∈ lwT := inT2 109 rfl rfl
theorem q_350 : Cond.code yX5_judgeAll cX5_judgeAll 2 (Option.none : Option Jvm.ClassFile.FieldType) ∈ lwT := inT2 110 rfl rfl
theorem q_351 : Cond.methodLink "FoldedStrip$Verdicts" 35 yX5_areAllContent ∈ lwT := inT2 111 rfl rfl
theorem q_353 : Cond.instanceMethod yX5_areAllContent ∈ lwT := inT2 113 rfl rfl
theorem q_354 : Cond.code yX5_areAllContent cX5_areAllContent 3 (Option.some FieldType.boolean) ∈ lwT := inT2 114 rfl rfl
theorem q_355 : Cond.methodLink "FoldedStrip$Verdicts" 71 yX5_isContent ∈ lwT := inT2 115 rfl rfl
theorem q_356 : Cond.instanceMethod yX5_isContent ∈ lwT := inT2 116 rfl rfl
theorem q_357 : Cond.selects "FoldedStrip$Verdicts" yX5_isContent yX5_isContent ∈ lwT := inT2 117 rfl rfl
theorem q_358 : Cond.code yX5_isContent cX5_isContent 5 (Option.some FieldType.boolean) ∈ lwT := inT2 118 rfl rfl
theorem q_359 : Cond.methodLink "FoldedStrip$Verdicts" 43 yX0_placeOf ∈ lwT := inT2 119 rfl rfl
theorem q_360 : Cond.instanceMethod yX0_placeOf ∈ lwT := inT2 120 rfl rfl
theorem q_361 : Cond.selects "FoldedStrip$Folds" yX0_placeOf yX0_placeOf ∈ lwT := inT2 121 rfl rfl
theorem q_362 : Cond.code yX0_placeOf cX0_placeOf 3 (Option.some FieldType.int) ∈ lwT := inT2 122 rfl rfl
theorem q_364 : Cond.static yX6_isOfKind ∈ lwT := inT2 124 rfl rfl
theorem q_365 : Cond.code yX6_isOfKind cX6_isOfKind 2 (Option.some FieldType.boolean) ∈ lwT := inT2 125 rfl rfl
theorem q_366 : Cond.methodLink "FoldedStrip$Verdicts" 54 yX5_hasWaxAt ∈ lwT := inT2 126 rfl rfl
theorem q_368 : Cond.instanceMethod yX5_hasWaxAt ∈ lwT := inT2 128 rfl rfl
theorem q_369 : Cond.code yX5_hasWaxAt cX5_hasWaxAt 4 (Option.some FieldType.boolean) ∈ lwT := inT2 129 rfl rfl
theorem q_370 : Cond.methodLink "FoldedStrip$Verdicts" 65 yX0_leafAt ∈ lwT := inT2 130 rfl rfl
theorem q_371 : Cond.instanceMethod yX0_leafAt ∈ lwT := inT2 131 rfl rfl
theorem q_372 : Cond.selects "FoldedStrip$Folds" yX0_leafAt yX0_leafAt ∈ lwT := inT2 132 rfl rfl
theorem q_373 : Cond.code yX0_leafAt cX0_leafAt 3 (Option.some FieldType.int) ∈ lwT := inT2 133 rfl rfl
theorem q_374 : Cond.methodLink "FoldedStrip$Folds" 32 yX0_leafIn ∈ lwT := inT2 134 rfl rfl
theorem q_375 : Cond.static yX0_leafIn ∈ lwT := inT2 135 rfl rfl
theorem q_376 : Cond.code yX0_leafIn cX0_leafIn 2 (Option.some FieldType.int) ∈ lwT := inT2 136 rfl rfl
theorem q_377 : Cond.methodLink "FoldedStrip$Verdicts" 39 yX5_widestHinge ∈ lwT := inT2 137 rfl rfl
theorem q_379 : Cond.instanceMethod yX5_widestHinge ∈ lwT := inT2 139 rfl rfl
theorem q_380 : Cond.code yX5_widestHinge cX5_widestHinge 4 (Option.some FieldType.int) ∈ lwT := inT2 140 rfl rfl
theorem q_381 : Cond.methodLink "FoldedStrip$Verdicts" 74 yX5_width ∈ lwT := inT2 141 rfl rfl
theorem q_382 : Cond.instanceMethod yX5_width ∈ lwT := inT2 142 rfl rfl
theorem q_383 : Cond.selects "FoldedStrip$Verdicts" yX5_width yX5_width ∈ lwT := inT2 143 rfl rfl
theorem q_384 : Cond.code yX5_width cX5_width 8 (Option.some FieldType.int) ∈ lwT := inT2 144 rfl rfl
theorem q_385 : Cond.methodLink "FoldedStrip$Verdicts" 57 yJ9_min_7cf53 ∈ lwT := inT2 145 rfl rfl
theorem q_386 : Cond.methodLink "FoldedStrip$Verdicts" 62 yJ9_max_7cf53 ∈ lwT := inT2 146 rfl rfl
theorem q_388 : Cond.static yX6_thickness ∈ lwT := inT2 148 rfl rfl
theorem q_389 : Cond.code yX6_thickness cX6_thickness 1 (Option.some FieldType.int) ∈ lwT := inT2 149 rfl rfl
theorem q_390 : Cond.methodLink "FoldedStrip" 127 yX6_isOfKind ∈ lwT := inT2 150 rfl rfl
theorem q_391 : Cond.methodLink "FoldedStripLaw" 31 yX6_leaf ∈ lwT := inT2 151 rfl rfl
theorem q_392 : Cond.instanceMethod yX6_leaf ∈ lwT := inT2 152 rfl rfl
theorem q_393 : Cond.selects "FoldedStrip" yX6_leaf yX6_leaf ∈ lwT := inT2 153 rfl rfl
theorem q_394 : Cond.code yX6_leaf cX6_leaf 3 (Option.some FieldType.int) ∈ lwT := inT2 154 rfl rfl
theorem q_395 : Cond.methodLink "FoldedStrip" 105 yX6_isLeaf ∈ lwT := inT2 155 rfl rfl
theorem q_397 : Cond.instanceMethod yX6_isLeaf ∈ lwT := inT2 157 rfl rfl
theorem q_398 : Cond.code yX6_isLeaf cX6_isLeaf 2 (Option.some FieldType.boolean) ∈ lwT := inT2 158 rfl rfl
theorem q_399 : Cond.methodLink "FoldedStrip" 109 yX6_thickness ∈ lwT := inT2 159 rfl rfl
theorem q_400 : Cond.methodLink "FoldedStrip" 112 yX0_placeOf ∈ lwT := inT2 160 rfl rfl
theorem q_401 : Cond.methodLink "FoldedStrip" 116 yX5_isContent ∈ lwT := inT2 161 rfl rfl
theorem q_402 : Cond.methodLink "FoldedStrip" 120 yX6_asNumber ∈ lwT := inT2 162 rfl rfl
theorem q_403 : Cond.static yX6_asNumber ∈ lwT := inT2 163 rfl rfl
theorem q_404 : Cond.code yX6_asNumber cX6_asNumber 1 (Option.some FieldType.int) ∈ lwT := inT2 164 rfl rfl
theorem q_405 : Cond.methodLink "FoldedStripLaw" 36 yX6_as ∈ lwT := inT2 165 rfl rfl
theorem q_406 : Cond.instanceMethod yX6_as ∈ lwT := inT2 166 rfl rfl
theorem q_407 : Cond.selects "FoldedStrip" yX6_as yX6_as ∈ lwT := inT2 167 rfl rfl
theorem q_408 : Cond.code yX6_as cX6_as 3 (Option.some FieldType.int) ∈ lwT := inT2 168 rfl rfl
theorem q_409 : Cond.methodLink "FoldedStrip" 124 yX6_isKind ∈ lwT := inT2 169 rfl rfl
theorem q_410 : Cond.static yX6_isKind ∈ lwT := inT2 170 rfl rfl
theorem q_411 : Cond.code yX6_isKind cX6_isKind 1 (Option.some FieldType.boolean) ∈ lwT := inT2 171 rfl rfl
theorem q_413 : Cond.methodLink "FoldedStrip" 253 yJ0_length_8abf5 ∈ lwT := inT2 173 rfl rfl
theorem q_414 : Cond.methodLink "FoldedStripLaw" 40 yX6_hinge ∈ lwT := inT2 174 rfl rfl
theorem q_415 : Cond.instanceMethod yX6_hinge ∈ lwT := inT2 175 rfl rfl
theorem q_416 : Cond.selects "FoldedStrip" yX6_hinge yX6_hinge ∈ lwT := inT2 176 rfl rfl
theorem q_417 : Cond.code yX6_hinge cX6_hinge 3 (Option.some FieldType.int) ∈ lwT := inT2 177 rfl rfl
theorem q_418 : Cond.methodLink "FoldedStrip" 130 yX5_width ∈ lwT := inT2 178 rfl rfl
theorem q_419 : Cond.methodLink "FoldedStripLaw" 44 yX6_at ∈ lwT := inT2 179 rfl rfl
theorem q_420 : Cond.instanceMethod yX6_at ∈ lwT := inT2 180 rfl rfl
theorem q_421 : Cond.selects "FoldedStrip" yX6_at yX6_at ∈ lwT := inT2 181 rfl rfl
theorem q_422 : Cond.code yX6_at cX6_at 2 (Option.some FieldType.int) ∈ lwT := inT2 182 rfl rfl
theorem q_423 : Cond.methodLink "FoldedStrip" 133 yX6_isPlace ∈ lwT := inT2 183 rfl rfl
theorem q_425 : Cond.instanceMethod yX6_isPlace ∈ lwT := inT2 185 rfl rfl
theorem q_426 : Cond.code yX6_isPlace cX6_isPlace 2 (Option.some FieldType.boolean) ∈ lwT := inT2 186 rfl rfl
theorem q_427 : Cond.methodLink "FoldedStrip" 136 yX0_leafAt ∈ lwT := inT2 187 rfl rfl
theorem q_428 : Cond.methodLink "FoldedStripLaw" 48 yX6_may ∈ lwT := inT2 188 rfl rfl
theorem q_429 : Cond.instanceMethod yX6_may ∈ lwT := inT2 189 rfl rfl
theorem q_430 : Cond.selects "FoldedStrip" yX6_may yX6_may ∈ lwT := inT2 190 rfl rfl
theorem q_431 : Cond.code yX6_may cX6_may 3 (Option.some FieldType.int) ∈ lwT := inT2 191 rfl rfl
theorem q_432 : Cond.methodLink "FoldedStrip" 139 yX0_afterMove ∈ lwT := inT2 192 rfl rfl
theorem q_433 : Cond.instanceMethod yX0_afterMove ∈ lwT := inT2 193 rfl rfl
theorem q_434 : Cond.selects "FoldedStrip$Folds" yX0_afterMove yX0_afterMove ∈ lwT := inT2 194 rfl rfl
theorem q_435 : Cond.code yX0_afterMove cX0_afterMove 5 (Option.some FieldType.int) ∈ lwT := inT2 195 rfl rfl
theorem q_436 : Cond.methodLink "FoldedStrip$Folds" 36 yX0_placeOf ∈ lwT := inT2 196 rfl rfl
theorem q_437 : Cond.methodLink "FoldedStrip$Folds" 39 yX0_takeOut ∈ lwT := inT2 197 rfl rfl
theorem q_438 : Cond.static yX0_takeOut ∈ lwT := inT2 198 rfl rfl
theorem q_439 : Cond.code yX0_takeOut cX0_takeOut 4 (Option.some FieldType.int) ∈ lwT := inT2 199 rfl rfl
theorem q_440 : Cond.methodLink "FoldedStrip$Folds" 71 yX0_upTo ∈ lwT := inT2 200 rfl rfl
theorem q_441 : Cond.static yX0_upTo ∈ lwT := inT2 201 rfl rfl
theorem q_442 : Cond.code yX0_upTo cX0_upTo 2 (Option.some FieldType.int) ∈ lwT := inT2 202 rfl rfl
theorem q_443 : Cond.methodLink "FoldedStrip$Folds" 42 yX0_putIn ∈ lwT := inT2 203 rfl rfl
theorem q_444 : Cond.static yX0_putIn ∈ lwT := inT2 204 rfl rfl
theorem q_445 : Cond.code yX0_putIn cX0_putIn 5 (Option.some FieldType.int) ∈ lwT := inT2 205 rfl rfl
theorem q_446 : Cond.methodLink "FoldedStrip$Folds" 46 yX0_find ∈ lwT := inT2 206 rfl rfl
theorem q_448 : Cond.instanceMethod yX0_find ∈ lwT := inT2 208 rfl rfl
theorem q_449 : Cond.code yX0_find cX0_find 4 (Option.some FieldType.int) ∈ lwT := inT2 209 rfl rfl
theorem q_450 : Cond.methodLink "FoldedStripLaw" 52 yX6_move ∈ lwT := inT2 210 rfl rfl
theorem q_451 : Cond.instanceMethod yX6_move ∈ lwT := inT2 211 rfl rfl
theorem q_452 : Cond.selects "FoldedStrip" yX6_move yX6_move ∈ lwT := inT2 212 rfl rfl
theorem q_453 : Cond.code yX6_move cX6_move 4 (Option.some FieldType.int) ∈ lwT := inT2 213 rfl rfl
theorem q_454 : Cond.methodLink "FoldedStrip" 143 yX6_openHinges ∈ lwT := inT2 214 rfl rfl
theorem q_456 : Cond.instanceMethod yX6_openHinges ∈ lwT := inT2 216 rfl rfl
theorem q_457 : Cond.code yX6_openHinges cX6_openHinges 3 (Option.some FieldType.int) ∈ lwT := inT2 217 rfl rfl
theorem q_458 : Cond.methodLink "FoldedStripLaw" 56 yX6_turn ∈ lwT := inT2 218 rfl rfl
theorem q_459 : Cond.instanceMethod yX6_turn ∈ lwT := inT2 219 rfl rfl
theorem q_460 : Cond.selects "FoldedStrip" yX6_turn yX6_turn ∈ lwT := inT2 220 rfl rfl
theorem q_461 : Cond.code yX6_turn cX6_turn 1 (Option.some FieldType.int) ∈ lwT := inT2 221 rfl rfl
theorem q_462 : Cond.methodLink "FoldedStrip" 146 yX6_isWithoutStrip ∈ lwT := inT2 222 rfl rfl
theorem q_464 : Cond.instanceMethod yX6_isWithoutStrip ∈ lwT := inT2 224 rfl rfl
theorem q_465 : Cond.code yX6_isWithoutStrip cX6_isWithoutStrip 1 (Option.some FieldType.boolean) ∈ lwT := inT2 225 rfl rfl
theorem q_466 : Cond.methodLink "FoldedStrip" 150 yX0_afterTurn ∈ lwT := inT2 226 rfl rfl
theorem q_467 : Cond.instanceMethod yX0_afterTurn ∈ lwT := inT2 227 rfl rfl
theorem q_468 : Cond.selects "FoldedStrip$Folds" yX0_afterTurn yX0_afterTurn ∈ lwT := inT2 228 rfl rfl
theorem q_469 : Cond.code yX0_afterTurn cX0_afterTurn 4 (Option.some FieldType.int) ∈ lwT := inT2 229 rfl rfl
theorem q_470 : Cond.methodLink "FoldedStrip$Folds" 50 yX0_leafAt ∈ lwT := inT2 230 rfl rfl
theorem q_471 : Cond.methodLink "FoldedStripLaw" 60 yX6_lay ∈ lwT := inT2 231 rfl rfl
theorem q_472 : Cond.instanceMethod yX6_lay ∈ lwT := inT2 232 rfl rfl
theorem q_473 : Cond.selects "FoldedStrip" yX6_lay yX6_lay ∈ lwT := inT2 233 rfl rfl
theorem q_474 : Cond.code yX6_lay cX6_lay 3 (Option.some FieldType.int) ∈ lwT := inT2 234 rfl rfl
theorem q_475 : Cond.methodLink "FoldedStrip" 153 yX6_isOrder ∈ lwT := inT2 235 rfl rfl
theorem q_477 : Cond.instanceMethod yX6_isOrder ∈ lwT := inT2 237 rfl rfl
theorem q_478 : Cond.code yX6_isOrder cX6_isOrder 2 (Option.some FieldType.boolean) ∈ lwT := inT2 238 rfl rfl
theorem q_479 : Cond.methodLink "FoldedStripLaw" 64 yX6_change ∈ lwT := inT2 239 rfl rfl
theorem q_480 : Cond.instanceMethod yX6_change ∈ lwT := inT3 0 rfl rfl
theorem q_481 : Cond.selects "FoldedStrip" yX6_change yX6_change ∈ lwT := inT3 1 rfl rfl
theorem q_482 : Cond.code yX6_change cX6_change 4 (Option.some FieldType.int) ∈ lwT := inT3 2 rfl rfl
theorem q_483 : Cond.methodLink "FoldedStripLaw" 68 yX6_orders ∈ lwT := inT3 3 rfl rfl
theorem q_484 : Cond.instanceMethod yX6_orders ∈ lwT := inT3 4 rfl rfl
theorem q_485 : Cond.selects "FoldedStrip" yX6_orders yX6_orders ∈ lwT := inT3 5 rfl rfl
theorem q_486 : Cond.code yX6_orders cX6_orders 2 (Option.some FieldType.int) ∈ lwT := inT3 6 rfl rfl
theorem q_487 : Cond.methodLink "FoldedStrip" 160 yX5_isFit ∈ lwT := inT3 7 rfl rfl
theorem q_488 : Cond.instanceMethod yX5_isFit ∈ lwT := inT3 8 rfl rfl
theorem q_489 : Cond.selects "FoldedStrip$Verdicts" yX5_isFit yX5_isFit ∈ lwT := inT3 9 rfl rfl
theorem q_490 : Cond.code yX5_isFit cX5_isFit 2 (Option.some FieldType.boolean) ∈ lwT := inT3 10 rfl rfl
theorem q_491 : Cond.methodLink "FoldedStripLaw" 72 yX6_order ∈ lwT := inT3 11 rfl rfl
theorem q_492 : Cond.instanceMethod yX6_order ∈ lwT := inT3 12 rfl rfl
theorem q_493 : Cond.selects "FoldedStrip" yX6_order yX6_order ∈ lwT := inT3 13 rfl rfl
theorem q_494 : Cond.code yX6_order cX6_order 3 (Option.some FieldType.int) ∈ lwT := inT3 14 rfl rfl
theorem q_495 : Cond.methodLink "FoldedStrip" 163 yX5_widestOf ∈ lwT := inT3 15 rfl rfl
theorem q_496 : Cond.instanceMethod yX5_widestOf ∈ lwT := inT3 16 rfl rfl
theorem q_497 : Cond.selects "FoldedStrip$Verdicts" yX5_widestOf yX5_widestOf ∈ lwT := inT3 17 rfl rfl
theorem q_498 : Cond.code yX5_widestOf cX5_widestOf 2 (Option.some FieldType.int) ∈ lwT := inT3 18 rfl rfl
theorem q_499 : Cond.methodLink "FoldedStripLaw" 76 yX6_tops ∈ lwT := inT3 19 rfl rfl
theorem q_500 : Cond.instanceMethod yX6_tops ∈ lwT := inT3 20 rfl rfl
theorem q_501 : Cond.selects "FoldedStrip" yX6_tops yX6_tops ∈ lwT := inT3 21 rfl rfl
theorem q_502 : Cond.code yX6_tops cX6_tops 5 (Option.some FieldType.int) ∈ lwT := inT3 22 rfl rfl
theorem q_503 : Cond.methodLink "FoldedStripLaw" 80 yX6_near ∈ lwT := inT3 23 rfl rfl
theorem q_504 : Cond.instanceMethod yX6_near ∈ lwT := inT3 24 rfl rfl
theorem q_505 : Cond.selects "FoldedStrip" yX6_near yX6_near ∈ lwT := inT3 25 rfl rfl
theorem q_506 : Cond.code yX6_near cX6_near 2 (Option.some FieldType.int) ∈ lwT := inT3 26 rfl rfl
theorem q_507 : Cond.methodLink "FoldedStrip" 166 yX3_measureFrom ∈ lwT := inT3 27 rfl rfl
theorem q_508 : Cond.instanceMethod yX3_measureFrom ∈ lwT := inT3 28 rfl rfl
theorem q_509 : Cond.selects "FoldedStrip$Paths" yX3_measureFrom yX3_measureFrom ∈ lwT := inT3 29 rfl rfl
theorem q_510 : Cond.code yX3_measureFrom cX3_measureFrom 4 (Option.none : Option Jvm.ClassFile.FieldType) ∈ lwT := inT3 30 rfl rfl
theorem q_511 : Cond.methodLink "FoldedStrip$Paths" 44 yX3_findSteps ∈ lwT := inT3 31 rfl rfl
theorem q_513 : Cond.instanceMethod yX3_findSteps ∈ lwT := inT3 33 rfl rfl
theorem q_514 : Cond.code yX3_findSteps cX3_findSteps 2 (Option.none : Option Jvm.ClassFile.FieldType) ∈ lwT := inT3 34 rfl rfl
theorem q_515 : Cond.methodLink "FoldedStrip$Paths" 51 yX3_findStepsFrom ∈ lwT := inT3 35 rfl rfl
theorem q_517 : Cond.instanceMethod yX3_findStepsFrom ∈ lwT := inT3 37 rfl rfl
theorem q_518 : Cond.code yX3_findStepsFrom cX3_findStepsFrom 5 (Option.none : Option Jvm.ClassFile.FieldType) ∈ lwT := inT3 38 rfl rfl
theorem q_519 : Cond.methodLink "FoldedStrip$Paths" 55 yX0_leafAt ∈ lwT := inT3 39 rfl rfl
theorem q_520 : Cond.methodLink "FoldedStrip$Paths" 58 yX0_afterMove ∈ lwT := inT3 40 rfl rfl
theorem q_521 : Cond.methodLink "FoldedStrip$Paths" 62 yX3_addStep ∈ lwT := inT3 41 rfl rfl
theorem q_523 : Cond.instanceMethod yX3_addStep ∈ lwT := inT3 43 rfl rfl
theorem q_524 : Cond.code yX3_addStep cX3_addStep 2 (Option.none : Option Jvm.ClassFile.FieldType) ∈ lwT := inT3 44 rfl rfl
theorem q_525 : Cond.methodLink "FoldedStrip$Paths" 47 yX3_spread ∈ lwT := inT3 45 rfl rfl
theorem q_527 : Cond.instanceMethod yX3_spread ∈ lwT := inT3 47 rfl rfl
theorem q_528 : Cond.code yX3_spread cX3_spread 6 (Option.some FieldType.int) ∈ lwT := inT3 48 rfl rfl
theorem q_529 : Cond.methodLink "FoldedStrip" 169 yX3_distanceTo ∈ lwT := inT3 49 rfl rfl
theorem q_530 : Cond.instanceMethod yX3_distanceTo ∈ lwT := inT3 50 rfl rfl
theorem q_531 : Cond.selects "FoldedStrip$Paths" yX3_distanceTo yX3_distanceTo ∈ lwT := inT3 51 rfl rfl
theorem q_532 : Cond.code yX3_distanceTo cX3_distanceTo 2 (Option.some FieldType.int) ∈ lwT := inT3 52 rfl rfl
theorem q_533 : Cond.methodLink "FoldedStripLaw" 84 yX6_far ∈ lwT := inT3 53 rfl rfl
theorem q_534 : Cond.instanceMethod yX6_far ∈ lwT := inT3 54 rfl rfl
theorem q_535 : Cond.selects "FoldedStrip" yX6_far yX6_far ∈ lwT := inT3 55 rfl rfl
theorem q_536 : Cond.code yX6_far cX6_far 3 (Option.some FieldType.int) ∈ lwT := inT3 56 rfl rfl
theorem q_537 : Cond.methodLink "FoldedStrip" 172 yX6_farthest ∈ lwT := inT3 57 rfl rfl
theorem q_539 : Cond.instanceMethod yX6_farthest ∈ lwT := inT3 59 rfl rfl
theorem q_540 : Cond.code yX6_farthest cX6_farthest 3 (Option.some FieldType.int) ∈ lwT := inT3 60 rfl rfl
theorem q_541 : Cond.methodLink "FoldedStrip" 175 yX6_home ∈ lwT := inT3 61 rfl rfl
theorem q_543 : Cond.instanceMethod yX6_home ∈ lwT := inT3 63 rfl rfl
theorem q_544 : Cond.code yX6_home cX6_home 4 (Option.some FieldType.int) ∈ lwT := inT3 64 rfl rfl
theorem q_545 : Cond.methodLink "FoldedStripLaw" 88 yX6_trim ∈ lwT := inT3 65 rfl rfl
theorem q_546 : Cond.instanceMethod yX6_trim ∈ lwT := inT3 66 rfl rfl
theorem q_547 : Cond.selects "FoldedStrip" yX6_trim yX6_trim ∈ lwT := inT3 67 rfl rfl
theorem q_548 : Cond.code yX6_trim cX6_trim 3 (Option.some FieldType.int) ∈ lwT := inT3 68 rfl rfl
theorem q_549 : Cond.methodLink "FoldedStrip" 178 yX5_trimmest ∈ lwT := inT3 69 rfl rfl
theorem q_550 : Cond.instanceMethod yX5_trimmest ∈ lwT := inT3 70 rfl rfl
theorem q_551 : Cond.selects "FoldedStrip$Verdicts" yX5_trimmest yX5_trimmest ∈ lwT := inT3 71 rfl rfl
theorem q_552 : Cond.code yX5_trimmest cX5_trimmest 3 (Option.some FieldType.int) ∈ lwT := inT3 72 rfl rfl
theorem q_553 : Cond.methodLink "FoldedStripLaw" 92 yX6_odds ∈ lwT := inT3 73 rfl rfl
theorem q_554 : Cond.instanceMethod yX6_odds ∈ lwT := inT3 74 rfl rfl
theorem q_555 : Cond.selects "FoldedStrip" yX6_odds yX6_odds ∈ lwT := inT3 75 rfl rfl
theorem q_556 : Cond.code yX6_odds cX6_odds 6 (Option.some FieldType.int) ∈ lwT := inT3 76 rfl rfl
theorem q_557 : Cond.methodLink "FoldedStrip" 181 yX5_fitsWithAbove ∈ lwT := inT3 77 rfl rfl
theorem q_558 : Cond.instanceMethod yX5_fitsWithAbove ∈ lwT := inT3 78 rfl rfl
theorem q_559 : Cond.selects "FoldedStrip$Verdicts" yX5_fitsWithAbove yX5_fitsWithAbove ∈ lwT := inT3 79 rfl rfl
theorem q_560 : Cond.code yX5_fitsWithAbove cX5_fitsWithAbove 5 (Option.some FieldType.int) ∈ lwT := inT3 80 rfl rfl
theorem q_561 : Cond.methodLink "FoldedStrip" 184 yX6_commonDivisor ∈ lwT := inT3 81 rfl rfl
theorem q_562 : Cond.static yX6_commonDivisor ∈ lwT := inT3 82 rfl rfl
theorem q_563 : Cond.code yX6_commonDivisor cX6_commonDivisor 6 (Option.some FieldType.int) ∈ lwT := inT3 83 rfl rfl
theorem q_564 : Cond.methodLink "FoldedStrip" 265 yJ9_max_7cf53 ∈ lwT := inT3 84 rfl rfl
theorem q_565 : Cond.methodLink "FoldedStripLaw" 97 yX6_see ∈ lwT := inT3 85 rfl rfl
theorem q_566 : Cond.instanceMethod yX6_see ∈ lwT := inT3 86 rfl rfl
theorem q_567 : Cond.selects "FoldedStrip" yX6_see yX6_see ∈ lwT := inT3 87 rfl rfl
theorem q_568 : Cond.code yX6_see cX6_see 4 (Option.some FieldType.int) ∈ lwT := inT3 88 rfl rfl
theorem q_569 : Cond.methodLink "FoldedStrip" 187 yX4_addSeen ∈ lwT := inT3 89 rfl rfl
theorem q_570 : Cond.instanceMethod yX4_addSeen ∈ lwT := inT3 90 rfl rfl
theorem q_571 : Cond.selects "FoldedStrip$Pile" yX4_addSeen yX4_addSeen ∈ lwT := inT3 91 rfl rfl
theorem q_572 : Cond.code yX4_addSeen cX4_addSeen 4 (Option.none : Option Jvm.ClassFile.FieldType) ∈ lwT := inT3 92 rfl rfl
theorem q_573 : Cond.methodLink "FoldedStripLaw" 102 yX6_forget ∈ lwT := inT3 93 rfl rfl
theorem q_574 : Cond.instanceMethod yX6_forget ∈ lwT := inT3 94 rfl rfl
theorem q_575 : Cond.selects "FoldedStrip" yX6_forget yX6_forget ∈ lwT := inT3 95 rfl rfl
theorem q_576 : Cond.code yX6_forget cX6_forget 2 (Option.some FieldType.int) ∈ lwT := inT3 96 rfl rfl
theorem q_577 : Cond.methodLink "FoldedStripLaw" 106 yX6_could ∈ lwT := inT3 97 rfl rfl
theorem q_578 : Cond.instanceMethod yX6_could ∈ lwT := inT3 98 rfl rfl
theorem q_579 : Cond.selects "FoldedStrip" yX6_could yX6_could ∈ lwT := inT3 99 rfl rfl
theorem q_580 : Cond.code yX6_could cX6_could 1 (Option.some FieldType.int) ∈ lwT := inT3 100 rfl rfl
theorem q_581 : Cond.methodLink "FoldedStrip" 191 yX1_countPossible ∈ lwT := inT3 101 rfl rfl
theorem q_582 : Cond.instanceMethod yX1_countPossible ∈ lwT := inT3 102 rfl rfl
theorem q_583 : Cond.selects "FoldedStrip$Needle" yX1_countPossible yX1_countPossible ∈ lwT := inT3 103 rfl rfl
theorem q_584 : Cond.code yX1_countPossible cX1_countPossible 3 (Option.some FieldType.int) ∈ lwT := inT3 104 rfl rfl
theorem q_585 : Cond.methodLink "FoldedStrip$Needle" 29 yX1_isPossible ∈ lwT := inT3 105 rfl rfl
theorem q_587 : Cond.instanceMethod yX1_isPossible ∈ lwT := inT3 107 rfl rfl
theorem q_588 : Cond.code yX1_isPossible cX1_isPossible 4 (Option.some FieldType.boolean) ∈ lwT := inT3 108 rfl rfl
theorem q_589 : Cond.methodLink "FoldedStrip$Needle" 50 yX0_placeOf ∈ lwT := inT3 109 rfl rfl
theorem q_590 : Cond.methodLink "FoldedStripLaw" 110 yX6_trial ∈ lwT := inT3 110 rfl rfl
theorem q_591 : Cond.instanceMethod yX6_trial ∈ lwT := inT3 111 rfl rfl
theorem q_592 : Cond.selects "FoldedStrip" yX6_trial yX6_trial ∈ lwT := inT3 112 rfl rfl
theorem q_593 : Cond.code yX6_trial cX6_trial 1 (Option.some FieldType.int) ∈ lwT := inT3 113 rfl rfl
theorem q_594 : Cond.methodLink "FoldedStrip" 194 yX1_bestTry ∈ lwT := inT3 114 rfl rfl
theorem q_595 : Cond.instanceMethod yX1_bestTry ∈ lwT := inT3 115 rfl rfl
theorem q_596 : Cond.selects "FoldedStrip$Needle" yX1_bestTry yX1_bestTry ∈ lwT := inT3 116 rfl rfl
theorem q_597 : Cond.code yX1_bestTry cX1_bestTry 8 (Option.some FieldType.int) ∈ lwT := inT3 117 rfl rfl
theorem q_598 : Cond.methodLink "FoldedStrip$Needle" 33 yX1_countThrough ∈ lwT := inT3 118 rfl rfl
theorem q_600 : Cond.instanceMethod yX1_countThrough ∈ lwT := inT3 120 rfl rfl
theorem q_601 : Cond.code yX1_countThrough cX1_countThrough 4 (Option.some FieldType.int) ∈ lwT := inT3 121 rfl rfl
theorem q_602 : Cond.methodLink "FoldedStrip$Needle" 40 yX1_rowOf ∈ lwT := inT3 122 rfl rfl
theorem q_603 : Cond.static yX1_rowOf ∈ lwT := inT3 123 rfl rfl
theorem q_604 : Cond.code yX1_rowOf cX1_rowOf 1 (Option.some FieldType.int) ∈ lwT := inT3 124 rfl rfl
theorem q_605 : Cond.methodLink "FoldedStrip$Needle" 44 yJ9_max_7cf53 ∈ lwT := inT3 125 rfl rfl
theorem q_606 : Cond.methodLink "FoldedStripLaw" 114 yX6_shuffles ∈ lwT := inT3 126 rfl rfl
theorem q_607 : Cond.instanceMethod yX6_shuffles ∈ lwT := inT3 127 rfl rfl
theorem q_608 : Cond.selects "FoldedStrip" yX6_shuffles yX6_shuffles ∈ lwT := inT3 128 rfl rfl
theorem q_609 : Cond.code yX6_shuffles cX6_shuffles 11 (Option.some FieldType.int) ∈ lwT := inT3 129 rfl rfl
theorem q_610 : Cond.methodLink "FoldedStrip" 197 yX6_seedAfter ∈ lwT := inT3 130 rfl rfl
theorem q_611 : Cond.static yX6_seedAfter ∈ lwT := inT3 131 rfl rfl
theorem q_612 : Cond.code yX6_seedAfter cX6_seedAfter 1 (Option.some FieldType.int) ∈ lwT := inT3 132 rfl rfl
theorem q_613 : Cond.constantLong "FoldedStrip" 258 (1103515245 : Int64) ∈ lwT := inT3 133 rfl rfl
theorem q_614 : Cond.constantLong "FoldedStrip" 260 (12345 : Int64) ∈ lwT := inT3 134 rfl rfl
theorem q_615 : Cond.constantLong "FoldedStrip" 262 (2147483648 : Int64) ∈ lwT := inT3 135 rfl rfl
theorem q_616 : Cond.methodLink "FoldedStrip" 200 yX6_draw ∈ lwT := inT3 136 rfl rfl
theorem q_617 : Cond.static yX6_draw ∈ lwT := inT3 137 rfl rfl
theorem q_618 : Cond.code yX6_draw cX6_draw 2 (Option.some FieldType.int) ∈ lwT := inT3 138 rfl rfl
theorem q_619 : Cond.constant "FoldedStrip" 264 (65536 : Int32) ∈ lwT := inT3 139 rfl rfl
theorem q_620 : Cond.methodLink "FoldedStripLaw" 118 yX6_image ∈ lwT := inT3 140 rfl rfl
theorem q_621 : Cond.instanceMethod yX6_image ∈ lwT := inT3 141 rfl rfl
theorem q_622 : Cond.selects "FoldedStrip" yX6_image yX6_image ∈ lwT := inT3 142 rfl rfl
theorem q_623 : Cond.code yX6_image cX6_image 1 (Option.some FieldType.int) ∈ lwT := inT3 143 rfl rfl
theorem q_624 : Cond.methodLink "FoldedStrip" 203 yX4_copyFrom ∈ lwT := inT3 144 rfl rfl
theorem q_625 : Cond.instanceMethod yX4_copyFrom ∈ lwT := inT3 145 rfl rfl
theorem q_626 : Cond.selects "FoldedStrip$Pile" yX4_copyFrom yX4_copyFrom ∈ lwT := inT3 146 rfl rfl
theorem q_627 : Cond.code yX4_copyFrom cX4_copyFrom 3 (Option.none : Option Jvm.ClassFile.FieldType) ∈ lwT := inT3 147 rfl rfl
theorem q_628 : Cond.methodLink "FoldedStripLaw" 122 yX6_restore ∈ lwT := inT3 148 rfl rfl
theorem q_629 : Cond.instanceMethod yX6_restore ∈ lwT := inT3 149 rfl rfl
theorem q_630 : Cond.selects "FoldedStrip" yX6_restore yX6_restore ∈ lwT := inT3 150 rfl rfl
theorem q_631 : Cond.code yX6_restore cX6_restore 1 (Option.some FieldType.int) ∈ lwT := inT3 151 rfl rfl
theorem q_632 : Cond.methodLink "FoldedStripLaw" 126 yX6_count ∈ lwT := inT3 152 rfl rfl
theorem q_633 : Cond.instanceMethod yX6_count ∈ lwT := inT3 153 rfl rfl
theorem q_634 : Cond.selects "FoldedStrip" yX6_count yX6_count ∈ lwT := inT3 154 rfl rfl
theorem q_635 : Cond.code yX6_count cX6_count 2 (Option.some FieldType.int) ∈ lwT := inT3 155 rfl rfl
theorem q_636 : Cond.methodLink "FoldedStrip" 207 yX6_wholeThickness ∈ lwT := inT3 156 rfl rfl
theorem q_638 : Cond.instanceMethod yX6_wholeThickness ∈ lwT := inT3 158 rfl rfl
theorem q_639 : Cond.code yX6_wholeThickness cX6_wholeThickness 3 (Option.some FieldType.int) ∈ lwT := inT3 159 rfl rfl
theorem q_640 : Cond.methodLink "FoldedStrip" 210 yX6_contentLeaves ∈ lwT := inT3 160 rfl rfl
theorem q_642 : Cond.instanceMethod yX6_contentLeaves ∈ lwT := inT3 162 rfl rfl
theorem q_643 : Cond.code yX6_contentLeaves cX6_contentLeaves 3 (Option.some FieldType.int) ∈ lwT := inT3 163 rfl rfl
theorem q_644 : Cond.methodLink "FoldedStrip" 213 yX6_possibleMoves ∈ lwT := inT3 164 rfl rfl
theorem q_646 : Cond.instanceMethod yX6_possibleMoves ∈ lwT := inT3 166 rfl rfl
theorem q_647 : Cond.code yX6_possibleMoves cX6_possibleMoves 5 (Option.some FieldType.int) ∈ lwT := inT3 167 rfl rfl
theorem q_648 : Cond.methodLink "FoldedStripLaw" 130 yX6_digest ∈ lwT := inT3 168 rfl rfl
theorem q_649 : Cond.instanceMethod yX6_digest ∈ lwT := inT3 169 rfl rfl
theorem q_650 : Cond.selects "FoldedStrip" yX6_digest yX6_digest ∈ lwT := inT3 170 rfl rfl
theorem q_651 : Cond.code yX6_digest cX6_digest 5 (Option.some FieldType.long) ∈ lwT := inT3 171 rfl rfl
theorem q_652 : Cond.constantLong "FoldedStrip" 216 (1319 : Int64) ∈ lwT := inT3 172 rfl rfl
theorem q_653 : Cond.constantLong "FoldedStrip" 218 (31 : Int64) ∈ lwT := inT3 173 rfl rfl
theorem q_654 : Cond.methodLink "FoldedStrip" 220 yX6_leaf ∈ lwT := inT3 174 rfl rfl
theorem q_655 : Cond.methodLink "FoldedStrip" 223 yX6_tops ∈ lwT := inT3 175 rfl rfl
theorem q_656 : Cond.methodLink "FoldedStrip" 226 yX6_hinge ∈ lwT := inT3 176 rfl rfl
theorem q_657 : Cond.methodLink "FoldedStrip" 229 yX6_withOrders ∈ lwT := inT3 177 rfl rfl
theorem q_659 : Cond.instanceMethod yX6_withOrders ∈ lwT := inT3 179 rfl rfl
theorem q_660 : Cond.code yX6_withOrders cX6_withOrders 6 (Option.some FieldType.long) ∈ lwT := inT3 180 rfl rfl
theorem q_661 : Cond.methodLink "FoldedStrip" 239 yX6_orders ∈ lwT := inT3 181 rfl rfl
theorem q_662 : Cond.methodLink "FoldedStrip" 242 yX6_trim ∈ lwT := inT3 182 rfl rfl
theorem q_663 : Cond.methodLink "FoldedStrip" 245 yX6_odds ∈ lwT := inT3 183 rfl rfl
theorem q_664 : Cond.methodLink "FoldedStrip" 248 yX6_could ∈ lwT := inT3 184 rfl rfl
theorem q_665 : Cond.methodLink "FoldedStrip" 236 yX6_count ∈ lwT := inT3 185 rfl rfl
theorem q_666 : Cond.classLink "FoldedStripLaw" 10 "FoldedStripModel" ∈ lwT := inT3 186 rfl rfl
theorem q_667 : Cond.instantiable "FoldedStripModel" 26 ∈ lwT := inT3 187 rfl rfl
theorem q_668 : Cond.methodLink "FoldedStripLaw" 12 yX7_init ∈ lwT := inT3 188 rfl rfl
theorem q_669 : Cond.instanceMethod yX7_init ∈ lwT := inT3 189 rfl rfl
theorem q_670 : Cond.code yX7_init cX7_init 1 (Option.none : Option Jvm.ClassFile.FieldType) ∈ lwT := inT3 190 rfl rfl
theorem q_671 : Cond.methodLink "FoldedStripModel" 1 (⟨"java/lang/Object", "<init>", "()V"⟩ : MethodName) ∈ lwT := inT3 191 rfl rfl
theorem q_672 : Cond.fieldLink "FoldedStripModel" 7 "FoldedStripModel" "page" "[I" ∈ lwT := inT3 192 rfl rfl
theorem q_673 : Cond.fieldLink "FoldedStripModel" 62 "FoldedStripModel" "pageMany" "I" ∈ lwT := inT3 193 rfl rfl
theorem q_674 : Cond.fieldLink "FoldedStripModel" 73 "FoldedStripModel" "leaves" "I" ∈ lwT := inT3 194 rfl rfl
theorem q_675 : Cond.fieldLink "FoldedStripModel" 79 "FoldedStripModel" "moves" "I" ∈ lwT := inT3 195 rfl rfl
theorem q_676 : Cond.fieldLink "FoldedStripModel" 85 "FoldedStripModel" "stripsRead" "I" ∈ lwT := inT3 196 rfl rfl
theorem q_677 : Cond.fieldLink "FoldedStripModel" 13 "FoldedStripModel" "kinds" "[I" ∈ lwT := inT3 197 rfl rfl
theorem q_678 : Cond.fieldLink "FoldedStripModel" 16 "FoldedStripModel" "lies" "[I" ∈ lwT := inT3 198 rfl rfl
theorem q_679 : Cond.fieldLink "FoldedStripModel" 19 "FoldedStripModel" "orders" "[I" ∈ lwT := inT3 199 rfl rfl
theorem q_680 : Cond.fieldLink "FoldedStripModel" 100 "FoldedStripModel" "orderMany" "I" ∈ lwT := inT3 200 rfl rfl
theorem q_681 : Cond.fieldLink "FoldedStripModel" 22 "FoldedStripModel" "places" "[I" ∈ lwT := inT3 201 rfl rfl
theorem q_682 : Cond.fieldLink "FoldedStripModel" 25 "FoldedStripModel" "tried" "[I" ∈ lwT := inT3 202 rfl rfl
theorem q_683 : Cond.fieldLink "FoldedStripModel" 28 "FoldedStripModel" "shifted" "[I" ∈ lwT := inT3 203 rfl rfl
theorem q_684 : Cond.fieldLink "FoldedStripModel" 31 "FoldedStripModel" "far" "[I" ∈ lwT := inT3 204 rfl rfl
theorem q_685 : Cond.fieldLink "FoldedStripModel" 34 "FoldedStripModel" "queue" "[I" ∈ lwT := inT3 205 rfl rfl
theorem q_686 : Cond.fieldLink "FoldedStripModel" 160 "FoldedStripModel" "queued" "I" ∈ lwT := inT3 206 rfl rfl
theorem q_687 : Cond.fieldLink "FoldedStripModel" 82 "FoldedStripModel" "seenMany" "I" ∈ lwT := inT3 207 rfl rfl
theorem q_688 : Cond.fieldLink "FoldedStripModel" 37 "FoldedStripModel" "sights" "[I" ∈ lwT := inT3 208 rfl rfl
theorem q_689 : Cond.fieldLink "FoldedStripModel" 239 "FoldedStripModel" "seedNow" "I" ∈ lwT := inT3 209 rfl rfl
theorem q_690 : Cond.fieldLink "FoldedStripModel" 40 "FoldedStripModel" "then" "[I" ∈ lwT := inT3 210 rfl rfl
theorem q_691 : Cond.fieldLink "FoldedStripModel" 52 "FoldedStripModel" "keptStrip" "I" ∈ lwT := inT3 211 rfl rfl
theorem q_692 : Cond.fieldLink "FoldedStripModel" 254 "FoldedStripModel" "keptMoves" "I" ∈ lwT := inT3 212 rfl rfl
theorem q_693 : Cond.fieldLink "FoldedStripModel" 257 "FoldedStripModel" "keptSeen" "I" ∈ lwT := inT3 213 rfl rfl
theorem q_694 : Cond.fieldLink "FoldedStripModel" 43 "FoldedStripModel" "keptKinds" "[I" ∈ lwT := inT3 214 rfl rfl
theorem q_695 : Cond.fieldLink "FoldedStripModel" 46 "FoldedStripModel" "keptLies" "[I" ∈ lwT := inT3 215 rfl rfl
theorem q_696 : Cond.fieldLink "FoldedStripModel" 49 "FoldedStripModel" "keptSights" "[I" ∈ lwT := inT3 216 rfl rfl
theorem q_697 : Cond.fieldLink "FoldedStripModel" 271 "FoldedStripModel" "hash" "J" ∈ lwT := inT3 217 rfl rfl
theorem q_698 : Cond.laysFinal "FoldedStripModel" "FoldedStripModel" "page" "[I" ∈ lwT := inT3 218 rfl rfl
theorem q_700 : Cond.lays "FoldedStripModel" "FoldedStripModel" "pageMany" "I" ∈ lwT := inT3 220 rfl rfl
theorem q_702 : Cond.lays "FoldedStripModel" "FoldedStripModel" "leaves" "I" ∈ lwT := inT3 222 rfl rfl
theorem q_704 : Cond.lays "FoldedStripModel" "FoldedStripModel" "moves" "I" ∈ lwT := inT3 224 rfl rfl
theorem q_706 : Cond.lays "FoldedStripModel" "FoldedStripModel" "stripsRead" "I" ∈ lwT := inT3 226 rfl rfl
theorem q_708 : Cond.laysFinal "FoldedStripModel" "FoldedStripModel" "kinds" "[I" ∈ lwT := inT3 228 rfl rfl
theorem q_710 : Cond.laysFinal "FoldedStripModel" "FoldedStripModel" "lies" "[I" ∈ lwT := inT3 230 rfl rfl
theorem q_712 : Cond.laysFinal "FoldedStripModel" "FoldedStripModel" "orders" "[I" ∈ lwT := inT3 232 rfl rfl
theorem q_714 : Cond.lays "FoldedStripModel" "FoldedStripModel" "orderMany" "I" ∈ lwT := inT3 234 rfl rfl
theorem q_716 : Cond.laysFinal "FoldedStripModel" "FoldedStripModel" "places" "[I" ∈ lwT := inT3 236 rfl rfl
theorem q_718 : Cond.laysFinal "FoldedStripModel" "FoldedStripModel" "tried" "[I" ∈ lwT := inT3 238 rfl rfl
theorem q_720 : Cond.laysFinal "FoldedStripModel" "FoldedStripModel" "shifted" "[I" ∈ lwT := inT4 0 rfl rfl
theorem q_722 : Cond.laysFinal "FoldedStripModel" "FoldedStripModel" "far" "[I" ∈ lwT := inT4 2 rfl rfl
theorem q_724 : Cond.laysFinal "FoldedStripModel" "FoldedStripModel" "queue" "[I" ∈ lwT := inT4 4 rfl rfl
theorem q_726 : Cond.lays "FoldedStripModel" "FoldedStripModel" "queued" "I" ∈ lwT := inT4 6 rfl rfl
theorem q_728 : Cond.lays "FoldedStripModel" "FoldedStripModel" "seenMany" "I" ∈ lwT := inT4 8 rfl rfl
theorem q_730 : Cond.laysFinal "FoldedStripModel" "FoldedStripModel" "sights" "[I" ∈ lwT := inT4 10 rfl rfl
theorem q_732 : Cond.lays "FoldedStripModel" "FoldedStripModel" "seedNow" "I" ∈ lwT := inT4 12 rfl rfl
theorem q_734 : Cond.laysFinal "FoldedStripModel" "FoldedStripModel" "then" "[I" ∈ lwT := inT4 14 rfl rfl
theorem q_736 : Cond.lays "FoldedStripModel" "FoldedStripModel" "keptStrip" "I" ∈ lwT := inT4 16 rfl rfl
theorem q_738 : Cond.lays "FoldedStripModel" "FoldedStripModel" "keptMoves" "I" ∈ lwT := inT4 18 rfl rfl
theorem q_740 : Cond.lays "FoldedStripModel" "FoldedStripModel" "keptSeen" "I" ∈ lwT := inT4 20 rfl rfl
theorem q_742 : Cond.laysFinal "FoldedStripModel" "FoldedStripModel" "keptKinds" "[I" ∈ lwT := inT4 22 rfl rfl
theorem q_744 : Cond.laysFinal "FoldedStripModel" "FoldedStripModel" "keptLies" "[I" ∈ lwT := inT4 24 rfl rfl
theorem q_746 : Cond.laysFinal "FoldedStripModel" "FoldedStripModel" "keptSights" "[I" ∈ lwT := inT4 26 rfl rfl
theorem q_748 : Cond.lays "FoldedStripModel" "FoldedStripModel" "hash" "J" ∈ lwT := inT4 28 rfl rfl
theorem q_750 : Cond.superclass "FoldedStripModel" "java/lang/Object" ∈ lwT := inT4 30 rfl rfl
theorem q_751 : Cond.methodLink "FoldedStripLaw" 17 yX7_letter ∈ lwT := inT4 31 rfl rfl
theorem q_752 : Cond.instanceMethod yX7_letter ∈ lwT := inT4 32 rfl rfl
theorem q_753 : Cond.selects "FoldedStripModel" yX7_letter yX7_letter ∈ lwT := inT4 33 rfl rfl
theorem q_754 : Cond.code yX7_letter cX7_letter 2 (Option.some FieldType.int) ∈ lwT := inT4 34 rfl rfl
theorem q_755 : Cond.constantLong "FoldedStripModel" 56 (126 : Int64) ∈ lwT := inT4 35 rfl rfl
theorem q_756 : Cond.methodLink "FoldedStripModel" 58 yX7_in ∈ lwT := inT4 36 rfl rfl
theorem q_757 : Cond.static yX7_in ∈ lwT := inT4 37 rfl rfl
theorem q_758 : Cond.code yX7_in cX7_in 6 (Option.some FieldType.boolean) ∈ lwT := inT4 38 rfl rfl
theorem q_759 : Cond.methodLink "FoldedStripLaw" 22 yX7_blank ∈ lwT := inT4 39 rfl rfl
theorem q_760 : Cond.instanceMethod yX7_blank ∈ lwT := inT4 40 rfl rfl
theorem q_761 : Cond.selects "FoldedStripModel" yX7_blank yX7_blank ∈ lwT := inT4 41 rfl rfl
theorem q_762 : Cond.code yX7_blank cX7_blank 2 (Option.some FieldType.int) ∈ lwT := inT4 42 rfl rfl
theorem q_763 : Cond.methodLink "FoldedStripLaw" 26 yX7_fault ∈ lwT := inT4 43 rfl rfl
theorem q_764 : Cond.instanceMethod yX7_fault ∈ lwT := inT4 44 rfl rfl
theorem q_765 : Cond.selects "FoldedStripModel" yX7_fault yX7_fault ∈ lwT := inT4 45 rfl rfl
theorem q_766 : Cond.code yX7_fault cX7_fault 1 (Option.some FieldType.int) ∈ lwT := inT4 46 rfl rfl
theorem q_767 : Cond.methodLink "FoldedStripModel" 69 yX7_faultOf ∈ lwT := inT4 47 rfl rfl
theorem q_769 : Cond.instanceMethod yX7_faultOf ∈ lwT := inT4 49 rfl rfl
theorem q_770 : Cond.code yX7_faultOf cX7_faultOf 2 (Option.some FieldType.int) ∈ lwT := inT4 50 rfl rfl
theorem q_771 : Cond.methodLink "FoldedStripModel" 65 yX7_kindBy ∈ lwT := inT4 51 rfl rfl
theorem q_772 : Cond.static yX7_kindBy ∈ lwT := inT4 52 rfl rfl
theorem q_773 : Cond.code yX7_kindBy cX7_kindBy 1 (Option.some FieldType.int) ∈ lwT := inT4 53 rfl rfl
theorem q_774 : Cond.methodLink "FoldedStripLaw" 30 yX7_strip ∈ lwT := inT4 54 rfl rfl
theorem q_775 : Cond.instanceMethod yX7_strip ∈ lwT := inT4 55 rfl rfl
theorem q_776 : Cond.selects "FoldedStripModel" yX7_strip yX7_strip ∈ lwT := inT4 56 rfl rfl
theorem q_777 : Cond.code yX7_strip cX7_strip 2 (Option.some FieldType.int) ∈ lwT := inT4 57 rfl rfl
theorem q_778 : Cond.methodLink "FoldedStripModel" 76 yX7_layOrders ∈ lwT := inT4 58 rfl rfl
theorem q_780 : Cond.instanceMethod yX7_layOrders ∈ lwT := inT4 60 rfl rfl
theorem q_781 : Cond.code yX7_layOrders cX7_layOrders 2 (Option.none : Option Jvm.ClassFile.FieldType) ∈ lwT := inT4 61 rfl rfl
theorem q_782 : Cond.methodLink "FoldedStripModel" 103 yX7_isFolded ∈ lwT := inT4 62 rfl rfl
theorem q_784 : Cond.instanceMethod yX7_isFolded ∈ lwT := inT4 64 rfl rfl
theorem q_785 : Cond.code yX7_isFolded cX7_isFolded 6 (Option.some FieldType.boolean) ∈ lwT := inT4 65 rfl rfl
theorem q_786 : Cond.methodLink "FoldedStripModel" 88 yX7_layPlaces ∈ lwT := inT4 66 rfl rfl
theorem q_788 : Cond.instanceMethod yX7_layPlaces ∈ lwT := inT4 68 rfl rfl
theorem q_789 : Cond.code yX7_layPlaces cX7_layPlaces 3 (Option.none : Option Jvm.ClassFile.FieldType) ∈ lwT := inT4 69 rfl rfl
theorem q_790 : Cond.methodLink "FoldedStripModel" 92 yX7_isWithin ∈ lwT := inT4 70 rfl rfl
theorem q_791 : Cond.static yX7_isWithin ∈ lwT := inT4 71 rfl rfl
theorem q_792 : Cond.code yX7_isWithin cX7_isWithin 3 (Option.some FieldType.boolean) ∈ lwT := inT4 72 rfl rfl
theorem q_793 : Cond.methodLink "FoldedStripModel" 107 yX7_codeOf ∈ lwT := inT4 73 rfl rfl
theorem q_794 : Cond.static yX7_codeOf ∈ lwT := inT4 74 rfl rfl
theorem q_795 : Cond.code yX7_codeOf cX7_codeOf 4 (Option.some FieldType.int) ∈ lwT := inT4 75 rfl rfl
theorem q_796 : Cond.methodLink "FoldedStripModel" 111 yX7_isStepped ∈ lwT := inT4 76 rfl rfl
theorem q_798 : Cond.instanceMethod yX7_isStepped ∈ lwT := inT4 78 rfl rfl
theorem q_799 : Cond.code yX7_isStepped cX7_isStepped 5 (Option.some FieldType.boolean) ∈ lwT := inT4 79 rfl rfl
theorem q_800 : Cond.methodLink "FoldedStripModel" 96 yX7_trade ∈ lwT := inT4 80 rfl rfl
theorem q_802 : Cond.instanceMethod yX7_trade ∈ lwT := inT4 82 rfl rfl
theorem q_803 : Cond.code yX7_trade cX7_trade 4 (Option.none : Option Jvm.ClassFile.FieldType) ∈ lwT := inT4 83 rfl rfl
theorem q_804 : Cond.methodLink "FoldedStripLaw" 83 yX7_near ∈ lwT := inT4 84 rfl rfl
theorem q_805 : Cond.instanceMethod yX7_near ∈ lwT := inT4 85 rfl rfl
theorem q_806 : Cond.selects "FoldedStripModel" yX7_near yX7_near ∈ lwT := inT4 86 rfl rfl
theorem q_807 : Cond.code yX7_near cX7_near 2 (Option.some FieldType.int) ∈ lwT := inT4 87 rfl rfl
theorem q_808 : Cond.methodLink "FoldedStripModel" 170 yX7_isOrder ∈ lwT := inT4 88 rfl rfl
theorem q_810 : Cond.instanceMethod yX7_isOrder ∈ lwT := inT4 90 rfl rfl
theorem q_811 : Cond.code yX7_isOrder cX7_isOrder 2 (Option.some FieldType.boolean) ∈ lwT := inT4 91 rfl rfl
theorem q_812 : Cond.methodLink "FoldedStripModel" 118 yX7_lacks ∈ lwT := inT4 92 rfl rfl
theorem q_814 : Cond.instanceMethod yX7_lacks ∈ lwT := inT4 94 rfl rfl
theorem q_815 : Cond.code yX7_lacks cX7_lacks 1 (Option.some FieldType.boolean) ∈ lwT := inT4 95 rfl rfl
theorem q_816 : Cond.methodLink "FoldedStripModel" 173 yX7_nearOf ∈ lwT := inT4 96 rfl rfl
theorem q_818 : Cond.instanceMethod yX7_nearOf ∈ lwT := inT4 98 rfl rfl
theorem q_819 : Cond.code yX7_nearOf cX7_nearOf 2 (Option.some FieldType.int) ∈ lwT := inT4 99 rfl rfl
theorem q_820 : Cond.methodLink "FoldedStripModel" 167 yX7_layFar ∈ lwT := inT4 100 rfl rfl
theorem q_822 : Cond.instanceMethod yX7_layFar ∈ lwT := inT4 102 rfl rfl
theorem q_823 : Cond.code yX7_layFar cX7_layFar 6 (Option.none : Option Jvm.ClassFile.FieldType) ∈ lwT := inT4 103 rfl rfl
theorem q_824 : Cond.methodLink "FoldedStripModel" 157 yX7_orderNow ∈ lwT := inT4 104 rfl rfl
theorem q_826 : Cond.instanceMethod yX7_orderNow ∈ lwT := inT4 106 rfl rfl
theorem q_827 : Cond.code yX7_orderNow cX7_orderNow 1 (Option.some FieldType.int) ∈ lwT := inT4 107 rfl rfl
theorem q_828 : Cond.methodLink "FoldedStripModel" 115 yX7_orderOf ∈ lwT := inT4 108 rfl rfl
theorem q_830 : Cond.instanceMethod yX7_orderOf ∈ lwT := inT4 110 rfl rfl
theorem q_831 : Cond.code yX7_orderOf cX7_orderOf 3 (Option.some FieldType.int) ∈ lwT := inT4 111 rfl rfl
theorem q_832 : Cond.methodLink "FoldedStripModel" 133 yX7_layRow ∈ lwT := inT4 112 rfl rfl
theorem q_834 : Cond.instanceMethod yX7_layRow ∈ lwT := inT4 114 rfl rfl
theorem q_835 : Cond.code yX7_layRow cX7_layRow 5 (Option.none : Option Jvm.ClassFile.FieldType) ∈ lwT := inT4 115 rfl rfl
theorem q_836 : Cond.methodLink "FoldedStripModel" 163 yX7_codeBy ∈ lwT := inT4 116 rfl rfl
theorem q_838 : Cond.instanceMethod yX7_codeBy ∈ lwT := inT4 118 rfl rfl
theorem q_839 : Cond.code yX7_codeBy cX7_codeBy 4 (Option.some FieldType.int) ∈ lwT := inT4 119 rfl rfl
theorem q_840 : Cond.methodLink "FoldedStripModel" 149 yX7_copy ∈ lwT := inT4 120 rfl rfl
theorem q_841 : Cond.static yX7_copy ∈ lwT := inT4 121 rfl rfl
theorem q_842 : Cond.code yX7_copy cX7_copy 3 (Option.none : Option Jvm.ClassFile.FieldType) ∈ lwT := inT4 122 rfl rfl
theorem q_843 : Cond.methodLink "FoldedStripModel" 146 yX7_placeOf ∈ lwT := inT4 123 rfl rfl
theorem q_844 : Cond.static yX7_placeOf ∈ lwT := inT4 124 rfl rfl
theorem q_845 : Cond.code yX7_placeOf cX7_placeOf 3 (Option.some FieldType.int) ∈ lwT := inT4 125 rfl rfl
theorem q_846 : Cond.methodLink "FoldedStripModel" 153 yX7_shift ∈ lwT := inT4 126 rfl rfl
theorem q_847 : Cond.static yX7_shift ∈ lwT := inT4 127 rfl rfl
theorem q_848 : Cond.code yX7_shift cX7_shift 4 (Option.none : Option Jvm.ClassFile.FieldType) ∈ lwT := inT4 128 rfl rfl
theorem q_849 : Cond.methodLink "FoldedStripLaw" 87 yX7_far ∈ lwT := inT4 129 rfl rfl
theorem q_850 : Cond.instanceMethod yX7_far ∈ lwT := inT4 130 rfl rfl
theorem q_851 : Cond.selects "FoldedStripModel" yX7_far yX7_far ∈ lwT := inT4 131 rfl rfl
theorem q_852 : Cond.code yX7_far cX7_far 2 (Option.some FieldType.int) ∈ lwT := inT4 132 rfl rfl
theorem q_853 : Cond.constantLong "FoldedStripModel" 179 (3 : Int64) ∈ lwT := inT4 133 rfl rfl
theorem q_854 : Cond.methodLink "FoldedStripModel" 181 yX7_farthestOf ∈ lwT := inT4 134 rfl rfl
theorem q_856 : Cond.instanceMethod yX7_farthestOf ∈ lwT := inT4 136 rfl rfl
theorem q_857 : Cond.code yX7_farthestOf cX7_farthestOf 4 (Option.some FieldType.int) ∈ lwT := inT4 137 rfl rfl
theorem q_858 : Cond.methodLink "FoldedStripModel" 184 yX7_homeOf ∈ lwT := inT4 138 rfl rfl
theorem q_860 : Cond.instanceMethod yX7_homeOf ∈ lwT := inT4 140 rfl rfl
theorem q_861 : Cond.code yX7_homeOf cX7_homeOf 5 (Option.some FieldType.int) ∈ lwT := inT4 141 rfl rfl
theorem q_862 : Cond.methodLink "FoldedStripModel" 176 yX7_isFitOrder ∈ lwT := inT4 142 rfl rfl
theorem q_864 : Cond.instanceMethod yX7_isFitOrder ∈ lwT := inT4 144 rfl rfl
theorem q_865 : Cond.code yX7_isFitOrder cX7_isFitOrder 2 (Option.some FieldType.boolean) ∈ lwT := inT4 145 rfl rfl
theorem q_866 : Cond.methodLink "FoldedStripModel" 137 yX7_isFit ∈ lwT := inT4 146 rfl rfl
theorem q_868 : Cond.instanceMethod yX7_isFit ∈ lwT := inT4 148 rfl rfl
theorem q_869 : Cond.code yX7_isFit cX7_isFit 2 (Option.some FieldType.boolean) ∈ lwT := inT4 149 rfl rfl
theorem q_870 : Cond.methodLink "FoldedStripModel" 129 yX7_rightMany ∈ lwT := inT4 150 rfl rfl
theorem q_872 : Cond.instanceMethod yX7_rightMany ∈ lwT := inT4 152 rfl rfl
theorem q_873 : Cond.code yX7_rightMany cX7_rightMany 4 (Option.some FieldType.int) ∈ lwT := inT4 153 rfl rfl
theorem q_874 : Cond.methodLink "FoldedStripModel" 125 yX7_isRight ∈ lwT := inT4 154 rfl rfl
theorem q_876 : Cond.instanceMethod yX7_isRight ∈ lwT := inT4 156 rfl rfl
theorem q_877 : Cond.code yX7_isRight cX7_isRight 5 (Option.some FieldType.boolean) ∈ lwT := inT4 157 rfl rfl
theorem q_878 : Cond.methodLink "FoldedStripModel" 121 yX7_isSticky ∈ lwT := inT4 158 rfl rfl
theorem q_880 : Cond.instanceMethod yX7_isSticky ∈ lwT := inT4 160 rfl rfl
theorem q_881 : Cond.code yX7_isSticky cX7_isSticky 2 (Option.some FieldType.boolean) ∈ lwT := inT4 161 rfl rfl
theorem q_882 : Cond.methodLink "FoldedStripLaw" 91 yX7_trim ∈ lwT := inT4 162 rfl rfl
theorem q_883 : Cond.instanceMethod yX7_trim ∈ lwT := inT4 163 rfl rfl
theorem q_884 : Cond.selects "FoldedStripModel" yX7_trim yX7_trim ∈ lwT := inT4 164 rfl rfl
theorem q_885 : Cond.code yX7_trim cX7_trim 2 (Option.some FieldType.int) ∈ lwT := inT4 165 rfl rfl
theorem q_886 : Cond.methodLink "FoldedStripModel" 190 yX7_trimOf ∈ lwT := inT4 166 rfl rfl
theorem q_888 : Cond.instanceMethod yX7_trimOf ∈ lwT := inT4 168 rfl rfl
theorem q_889 : Cond.code yX7_trimOf cX7_trimOf 6 (Option.some FieldType.int) ∈ lwT := inT4 169 rfl rfl
theorem q_890 : Cond.methodLink "FoldedStripModel" 187 yX7_widest ∈ lwT := inT4 170 rfl rfl
theorem q_892 : Cond.instanceMethod yX7_widest ∈ lwT := inT4 172 rfl rfl
theorem q_893 : Cond.code yX7_widest cX7_widest 5 (Option.some FieldType.int) ∈ lwT := inT4 173 rfl rfl
theorem q_894 : Cond.methodLink "FoldedStripModel" 143 yX7_wideOf ∈ lwT := inT4 174 rfl rfl
theorem q_896 : Cond.instanceMethod yX7_wideOf ∈ lwT := inT4 176 rfl rfl
theorem q_897 : Cond.code yX7_wideOf cX7_wideOf 5 (Option.some FieldType.int) ∈ lwT := inT4 177 rfl rfl
theorem q_898 : Cond.methodLink "FoldedStripModel" 140 yX7_thick ∈ lwT := inT4 178 rfl rfl
theorem q_900 : Cond.instanceMethod yX7_thick ∈ lwT := inT4 180 rfl rfl
theorem q_901 : Cond.code yX7_thick cX7_thick 2 (Option.some FieldType.int) ∈ lwT := inT4 181 rfl rfl
theorem q_902 : Cond.methodLink "FoldedStripLaw" 96 yX7_odds ∈ lwT := inT4 182 rfl rfl
theorem q_903 : Cond.instanceMethod yX7_odds ∈ lwT := inT4 183 rfl rfl
theorem q_904 : Cond.selects "FoldedStripModel" yX7_odds yX7_odds ∈ lwT := inT4 184 rfl rfl
theorem q_905 : Cond.code yX7_odds cX7_odds 4 (Option.some FieldType.int) ∈ lwT := inT4 185 rfl rfl
theorem q_906 : Cond.methodLink "FoldedStripModel" 193 yX7_isLeaf ∈ lwT := inT4 186 rfl rfl
theorem q_908 : Cond.instanceMethod yX7_isLeaf ∈ lwT := inT4 188 rfl rfl
theorem q_909 : Cond.code yX7_isLeaf cX7_isLeaf 2 (Option.some FieldType.boolean) ∈ lwT := inT4 189 rfl rfl
theorem q_910 : Cond.methodLink "FoldedStripModel" 196 yX7_oddsOf ∈ lwT := inT4 190 rfl rfl
theorem q_912 : Cond.instanceMethod yX7_oddsOf ∈ lwT := inT4 192 rfl rfl
theorem q_913 : Cond.code yX7_oddsOf cX7_oddsOf 9 (Option.some FieldType.int) ∈ lwT := inT4 193 rfl rfl
theorem q_914 : Cond.methodLink "FoldedStripLaw" 35 yX7_leaf ∈ lwT := inT4 194 rfl rfl
theorem q_915 : Cond.instanceMethod yX7_leaf ∈ lwT := inT4 195 rfl rfl
theorem q_916 : Cond.selects "FoldedStripModel" yX7_leaf yX7_leaf ∈ lwT := inT4 196 rfl rfl
theorem q_917 : Cond.code yX7_leaf cX7_leaf 3 (Option.some FieldType.int) ∈ lwT := inT4 197 rfl rfl
theorem q_918 : Cond.methodLink "FoldedStripModel" 200 yX7_tellLeaf ∈ lwT := inT4 198 rfl rfl
theorem q_920 : Cond.instanceMethod yX7_tellLeaf ∈ lwT := inT4 200 rfl rfl
theorem q_921 : Cond.code yX7_tellLeaf cX7_tellLeaf 3 (Option.some FieldType.int) ∈ lwT := inT4 201 rfl rfl
theorem q_922 : Cond.methodLink "FoldedStripLaw" 39 yX7_as ∈ lwT := inT4 202 rfl rfl
theorem q_923 : Cond.instanceMethod yX7_as ∈ lwT := inT4 203 rfl rfl
theorem q_924 : Cond.selects "FoldedStripModel" yX7_as yX7_as ∈ lwT := inT4 204 rfl rfl
theorem q_925 : Cond.code yX7_as cX7_as 4 (Option.some FieldType.int) ∈ lwT := inT4 205 rfl rfl
theorem q_926 : Cond.constantLong "FoldedStripModel" 204 (4 : Int64) ∈ lwT := inT4 206 rfl rfl
theorem q_927 : Cond.methodLink "FoldedStripLaw" 43 yX7_hinge ∈ lwT := inT4 207 rfl rfl
theorem q_928 : Cond.instanceMethod yX7_hinge ∈ lwT := inT4 208 rfl rfl
theorem q_929 : Cond.selects "FoldedStripModel" yX7_hinge yX7_hinge ∈ lwT := inT4 209 rfl rfl
theorem q_930 : Cond.code yX7_hinge cX7_hinge 3 (Option.some FieldType.int) ∈ lwT := inT4 210 rfl rfl
theorem q_931 : Cond.methodLink "FoldedStripLaw" 47 yX7_at ∈ lwT := inT4 211 rfl rfl
theorem q_932 : Cond.instanceMethod yX7_at ∈ lwT := inT4 212 rfl rfl
theorem q_933 : Cond.selects "FoldedStripModel" yX7_at yX7_at ∈ lwT := inT4 213 rfl rfl
theorem q_934 : Cond.code yX7_at cX7_at 2 (Option.some FieldType.int) ∈ lwT := inT4 214 rfl rfl
theorem q_935 : Cond.methodLink "FoldedStripLaw" 51 yX7_may ∈ lwT := inT4 215 rfl rfl
theorem q_936 : Cond.instanceMethod yX7_may ∈ lwT := inT4 216 rfl rfl
theorem q_937 : Cond.selects "FoldedStripModel" yX7_may yX7_may ∈ lwT := inT4 217 rfl rfl
theorem q_938 : Cond.code yX7_may cX7_may 3 (Option.some FieldType.int) ∈ lwT := inT4 218 rfl rfl
theorem q_939 : Cond.methodLink "FoldedStripLaw" 71 yX7_orders ∈ lwT := inT4 219 rfl rfl
theorem q_940 : Cond.instanceMethod yX7_orders ∈ lwT := inT4 220 rfl rfl
theorem q_941 : Cond.selects "FoldedStripModel" yX7_orders yX7_orders ∈ lwT := inT4 221 rfl rfl
theorem q_942 : Cond.code yX7_orders cX7_orders 2 (Option.some FieldType.int) ∈ lwT := inT4 222 rfl rfl
theorem q_943 : Cond.methodLink "FoldedStripModel" 209 yX7_ordersOf ∈ lwT := inT4 223 rfl rfl
theorem q_945 : Cond.instanceMethod yX7_ordersOf ∈ lwT := inT4 225 rfl rfl
theorem q_946 : Cond.code yX7_ordersOf cX7_ordersOf 2 (Option.some FieldType.int) ∈ lwT := inT4 226 rfl rfl
theorem q_947 : Cond.methodLink "FoldedStripModel" 206 yX7_fitMany ∈ lwT := inT4 227 rfl rfl
theorem q_949 : Cond.instanceMethod yX7_fitMany ∈ lwT := inT4 229 rfl rfl
theorem q_950 : Cond.code yX7_fitMany cX7_fitMany 3 (Option.some FieldType.int) ∈ lwT := inT4 230 rfl rfl
theorem q_951 : Cond.methodLink "FoldedStripLaw" 75 yX7_order ∈ lwT := inT4 231 rfl rfl
theorem q_952 : Cond.instanceMethod yX7_order ∈ lwT := inT4 232 rfl rfl
theorem q_953 : Cond.selects "FoldedStripModel" yX7_order yX7_order ∈ lwT := inT4 233 rfl rfl
theorem q_954 : Cond.code yX7_order cX7_order 3 (Option.some FieldType.int) ∈ lwT := inT4 234 rfl rfl
theorem q_955 : Cond.constantLong "FoldedStripModel" 212 (10 : Int64) ∈ lwT := inT4 235 rfl rfl
theorem q_956 : Cond.constantLong "FoldedStripModel" 214 (16 : Int64) ∈ lwT := inT4 236 rfl rfl
theorem q_957 : Cond.methodLink "FoldedStripModel" 216 yX7_tellOrder ∈ lwT := inT4 237 rfl rfl
theorem q_959 : Cond.instanceMethod yX7_tellOrder ∈ lwT := inT4 239 rfl rfl
theorem q_960 : Cond.code yX7_tellOrder cX7_tellOrder 3 (Option.some FieldType.int) ∈ lwT := inT5 0 rfl rfl
theorem q_961 : Cond.methodLink "FoldedStripLaw" 79 yX7_tops ∈ lwT := inT5 1 rfl rfl
theorem q_962 : Cond.instanceMethod yX7_tops ∈ lwT := inT5 2 rfl rfl
theorem q_963 : Cond.selects "FoldedStripModel" yX7_tops yX7_tops ∈ lwT := inT5 3 rfl rfl
theorem q_964 : Cond.code yX7_tops cX7_tops 3 (Option.some FieldType.int) ∈ lwT := inT5 4 rfl rfl
theorem q_965 : Cond.methodLink "FoldedStripModel" 219 yX7_topsOf ∈ lwT := inT5 5 rfl rfl
theorem q_967 : Cond.instanceMethod yX7_topsOf ∈ lwT := inT5 7 rfl rfl
theorem q_968 : Cond.code yX7_topsOf cX7_topsOf 6 (Option.some FieldType.int) ∈ lwT := inT5 8 rfl rfl
theorem q_969 : Cond.methodLink "FoldedStripLaw" 55 yX7_move ∈ lwT := inT5 9 rfl rfl
theorem q_970 : Cond.instanceMethod yX7_move ∈ lwT := inT5 10 rfl rfl
theorem q_971 : Cond.selects "FoldedStripModel" yX7_move yX7_move ∈ lwT := inT5 11 rfl rfl
theorem q_972 : Cond.code yX7_move cX7_move 3 (Option.some FieldType.int) ∈ lwT := inT5 12 rfl rfl
theorem q_973 : Cond.methodLink "FoldedStripModel" 222 yX7_widerMany ∈ lwT := inT5 13 rfl rfl
theorem q_975 : Cond.instanceMethod yX7_widerMany ∈ lwT := inT5 15 rfl rfl
theorem q_976 : Cond.code yX7_widerMany cX7_widerMany 4 (Option.some FieldType.int) ∈ lwT := inT5 16 rfl rfl
theorem q_977 : Cond.methodLink "FoldedStripLaw" 59 yX7_turn ∈ lwT := inT5 17 rfl rfl
theorem q_978 : Cond.instanceMethod yX7_turn ∈ lwT := inT5 18 rfl rfl
theorem q_979 : Cond.selects "FoldedStripModel" yX7_turn yX7_turn ∈ lwT := inT5 19 rfl rfl
theorem q_980 : Cond.code yX7_turn cX7_turn 2 (Option.some FieldType.int) ∈ lwT := inT5 20 rfl rfl
theorem q_981 : Cond.methodLink "FoldedStripLaw" 63 yX7_lay ∈ lwT := inT5 21 rfl rfl
theorem q_982 : Cond.instanceMethod yX7_lay ∈ lwT := inT5 22 rfl rfl
theorem q_983 : Cond.selects "FoldedStripModel" yX7_lay yX7_lay ∈ lwT := inT5 23 rfl rfl
theorem q_984 : Cond.code yX7_lay cX7_lay 3 (Option.some FieldType.int) ∈ lwT := inT5 24 rfl rfl
theorem q_985 : Cond.methodLink "FoldedStripLaw" 67 yX7_change ∈ lwT := inT5 25 rfl rfl
theorem q_986 : Cond.instanceMethod yX7_change ∈ lwT := inT5 26 rfl rfl
theorem q_987 : Cond.selects "FoldedStripModel" yX7_change yX7_change ∈ lwT := inT5 27 rfl rfl
theorem q_988 : Cond.code yX7_change cX7_change 4 (Option.some FieldType.int) ∈ lwT := inT5 28 rfl rfl
theorem q_989 : Cond.methodLink "FoldedStripLaw" 101 yX7_see ∈ lwT := inT5 29 rfl rfl
theorem q_990 : Cond.instanceMethod yX7_see ∈ lwT := inT5 30 rfl rfl
theorem q_991 : Cond.selects "FoldedStripModel" yX7_see yX7_see ∈ lwT := inT5 31 rfl rfl
theorem q_992 : Cond.code yX7_see cX7_see 4 (Option.some FieldType.int) ∈ lwT := inT5 32 rfl rfl
theorem q_993 : Cond.methodLink "FoldedStripLaw" 105 yX7_forget ∈ lwT := inT5 33 rfl rfl
theorem q_994 : Cond.instanceMethod yX7_forget ∈ lwT := inT5 34 rfl rfl
theorem q_995 : Cond.selects "FoldedStripModel" yX7_forget yX7_forget ∈ lwT := inT5 35 rfl rfl
theorem q_996 : Cond.code yX7_forget cX7_forget 2 (Option.some FieldType.int) ∈ lwT := inT5 36 rfl rfl
theorem q_997 : Cond.methodLink "FoldedStripLaw" 109 yX7_could ∈ lwT := inT5 37 rfl rfl
theorem q_998 : Cond.instanceMethod yX7_could ∈ lwT := inT5 38 rfl rfl
theorem q_999 : Cond.selects "FoldedStripModel" yX7_could yX7_could ∈ lwT := inT5 39 rfl rfl
theorem q_1000 : Cond.code yX7_could cX7_could 1 (Option.some FieldType.int) ∈ lwT := inT5 40 rfl rfl
theorem q_1001 : Cond.methodLink "FoldedStripModel" 228 yX7_couldOf ∈ lwT := inT5 41 rfl rfl
theorem q_1003 : Cond.instanceMethod yX7_couldOf ∈ lwT := inT5 43 rfl rfl
theorem q_1004 : Cond.code yX7_couldOf cX7_couldOf 3 (Option.some FieldType.int) ∈ lwT := inT5 44 rfl rfl
theorem q_1005 : Cond.methodLink "FoldedStripModel" 225 yX7_isLikely ∈ lwT := inT5 45 rfl rfl
theorem q_1007 : Cond.instanceMethod yX7_isLikely ∈ lwT := inT5 47 rfl rfl
theorem q_1008 : Cond.code yX7_isLikely cX7_isLikely 5 (Option.some FieldType.boolean) ∈ lwT := inT5 48 rfl rfl
theorem q_1009 : Cond.methodLink "FoldedStripLaw" 113 yX7_trial ∈ lwT := inT5 49 rfl rfl
theorem q_1010 : Cond.instanceMethod yX7_trial ∈ lwT := inT5 50 rfl rfl
theorem q_1011 : Cond.selects "FoldedStripModel" yX7_trial yX7_trial ∈ lwT := inT5 51 rfl rfl
theorem q_1012 : Cond.code yX7_trial cX7_trial 1 (Option.some FieldType.int) ∈ lwT := inT5 52 rfl rfl
theorem q_1013 : Cond.methodLink "FoldedStripModel" 234 yX7_trialOf ∈ lwT := inT5 53 rfl rfl
theorem q_1015 : Cond.instanceMethod yX7_trialOf ∈ lwT := inT5 55 rfl rfl
theorem q_1016 : Cond.code yX7_trialOf cX7_trialOf 6 (Option.some FieldType.int) ∈ lwT := inT5 56 rfl rfl
theorem q_1017 : Cond.methodLink "FoldedStripModel" 231 yX7_worstBy ∈ lwT := inT5 57 rfl rfl
theorem q_1019 : Cond.instanceMethod yX7_worstBy ∈ lwT := inT5 59 rfl rfl
theorem q_1020 : Cond.code yX7_worstBy cX7_worstBy 6 (Option.some FieldType.int) ∈ lwT := inT5 60 rfl rfl
theorem q_1021 : Cond.methodLink "FoldedStripLaw" 117 yX7_shuffles ∈ lwT := inT5 61 rfl rfl
theorem q_1022 : Cond.instanceMethod yX7_shuffles ∈ lwT := inT5 62 rfl rfl
theorem q_1023 : Cond.selects "FoldedStripModel" yX7_shuffles yX7_shuffles ∈ lwT := inT5 63 rfl rfl
theorem q_1024 : Cond.code yX7_shuffles cX7_shuffles 8 (Option.some FieldType.int) ∈ lwT := inT5 64 rfl rfl
theorem q_1025 : Cond.constantLong "FoldedStripModel" 247 (99 : Int64) ∈ lwT := inT5 65 rfl rfl
theorem q_1026 : Cond.constantLong "FoldedStripModel" 249 (2 : Int64) ∈ lwT := inT5 66 rfl rfl
theorem q_1027 : Cond.methodLink "FoldedStripModel" 251 yX7_draw ∈ lwT := inT5 67 rfl rfl
theorem q_1029 : Cond.instanceMethod yX7_draw ∈ lwT := inT5 69 rfl rfl
theorem q_1030 : Cond.code yX7_draw cX7_draw 2 (Option.some FieldType.int) ∈ lwT := inT5 70 rfl rfl
theorem q_1031 : Cond.constantLong "FoldedStripModel" 237 (1103515245 : Int64) ∈ lwT := inT5 71 rfl rfl
theorem q_1032 : Cond.constantLong "FoldedStripModel" 242 (12345 : Int64) ∈ lwT := inT5 72 rfl rfl
theorem q_1033 : Cond.constantLong "FoldedStripModel" 244 (2147483647 : Int64) ∈ lwT := inT5 73 rfl rfl
theorem q_1034 : Cond.constant "FoldedStripModel" 246 (65536 : Int32) ∈ lwT := inT5 74 rfl rfl
theorem q_1035 : Cond.methodLink "FoldedStripLaw" 121 yX7_image ∈ lwT := inT5 75 rfl rfl
theorem q_1036 : Cond.instanceMethod yX7_image ∈ lwT := inT5 76 rfl rfl
theorem q_1037 : Cond.selects "FoldedStripModel" yX7_image yX7_image ∈ lwT := inT5 77 rfl rfl
theorem q_1038 : Cond.code yX7_image cX7_image 1 (Option.some FieldType.int) ∈ lwT := inT5 78 rfl rfl
theorem q_1039 : Cond.methodLink "FoldedStripLaw" 125 yX7_restore ∈ lwT := inT5 79 rfl rfl
theorem q_1040 : Cond.instanceMethod yX7_restore ∈ lwT := inT5 80 rfl rfl
theorem q_1041 : Cond.selects "FoldedStripModel" yX7_restore yX7_restore ∈ lwT := inT5 81 rfl rfl
theorem q_1042 : Cond.code yX7_restore cX7_restore 1 (Option.some FieldType.int) ∈ lwT := inT5 82 rfl rfl
theorem q_1043 : Cond.methodLink "FoldedStripLaw" 129 yX7_count ∈ lwT := inT5 83 rfl rfl
theorem q_1044 : Cond.instanceMethod yX7_count ∈ lwT := inT5 84 rfl rfl
theorem q_1045 : Cond.selects "FoldedStripModel" yX7_count yX7_count ∈ lwT := inT5 85 rfl rfl
theorem q_1046 : Cond.code yX7_count cX7_count 2 (Option.some FieldType.int) ∈ lwT := inT5 86 rfl rfl
theorem q_1047 : Cond.methodLink "FoldedStripModel" 266 yX7_countOf ∈ lwT := inT5 87 rfl rfl
theorem q_1049 : Cond.instanceMethod yX7_countOf ∈ lwT := inT5 89 rfl rfl
theorem q_1050 : Cond.code yX7_countOf cX7_countOf 2 (Option.some FieldType.int) ∈ lwT := inT5 90 rfl rfl
theorem q_1051 : Cond.methodLink "FoldedStripModel" 260 yX7_thickAll ∈ lwT := inT5 91 rfl rfl
theorem q_1053 : Cond.instanceMethod yX7_thickAll ∈ lwT := inT5 93 rfl rfl
theorem q_1054 : Cond.code yX7_thickAll cX7_thickAll 3 (Option.some FieldType.int) ∈ lwT := inT5 94 rfl rfl
theorem q_1055 : Cond.methodLink "FoldedStripModel" 263 yX7_movesNow ∈ lwT := inT5 95 rfl rfl
theorem q_1057 : Cond.instanceMethod yX7_movesNow ∈ lwT := inT5 97 rfl rfl
theorem q_1058 : Cond.code yX7_movesNow cX7_movesNow 3 (Option.some FieldType.int) ∈ lwT := inT5 98 rfl rfl
theorem q_1059 : Cond.methodLink "FoldedStripLaw" 134 yX7_digest ∈ lwT := inT5 99 rfl rfl
theorem q_1060 : Cond.instanceMethod yX7_digest ∈ lwT := inT5 100 rfl rfl
theorem q_1061 : Cond.selects "FoldedStripModel" yX7_digest yX7_digest ∈ lwT := inT5 101 rfl rfl
theorem q_1062 : Cond.code yX7_digest cX7_digest 3 (Option.some FieldType.long) ∈ lwT := inT5 102 rfl rfl
theorem q_1063 : Cond.constantLong "FoldedStripModel" 279 (1319 : Int64) ∈ lwT := inT5 103 rfl rfl
theorem q_1064 : Cond.methodLink "FoldedStripModel" 275 yX7_say ∈ lwT := inT5 104 rfl rfl
theorem q_1066 : Cond.instanceMethod yX7_say ∈ lwT := inT5 106 rfl rfl
theorem q_1067 : Cond.code yX7_say cX7_say 3 (Option.none : Option Jvm.ClassFile.FieldType) ∈ lwT := inT5 107 rfl rfl
theorem q_1068 : Cond.constantLong "FoldedStripModel" 269 (31 : Int64) ∈ lwT := inT5 108 rfl rfl
theorem q_1069 : Cond.methodLink "FoldedStripModel" 281 yX7_sayStrip ∈ lwT := inT5 109 rfl rfl
theorem q_1071 : Cond.instanceMethod yX7_sayStrip ∈ lwT := inT5 111 rfl rfl
theorem q_1072 : Cond.code yX7_sayStrip cX7_sayStrip 2 (Option.none : Option Jvm.ClassFile.FieldType) ∈ lwT := inT5 112 rfl rfl
theorem q_1073 : Cond.fieldLink "java/lang/String" 15 "java/lang/String" "coder" "B" ∈ lwT := inT5 113 rfl rfl
theorem q_1074 : Cond.fieldLink "java/lang/String" 9 "java/lang/String" "value" "[B" ∈ lwT := inT5 114 rfl rfl
theorem q_sX0_keep : Cond.selects RX0 yX0_keep yX0_keep ∈ lwT := inSel (q := (yX0_keep, 5)) (inS1 0 rfl) rfl
theorem q_sX0_canComeNext : Cond.selects RX0 yX0_canComeNext yX0_canComeNext ∈ lwT := inSel (q := (yX0_canComeNext, 5)) (inS1 1 rfl) rfl
theorem q_sX0_crossesAbove : Cond.selects RX0 yX0_crossesAbove yX0_crossesAbove ∈ lwT := inSel (q := (yX0_crossesAbove, 5)) (inS1 2 rfl) rfl
theorem q_sX0_mateOf : Cond.selects RX0 yX0_mateOf yX0_mateOf ∈ lwT := inSel (q := (yX0_mateOf, 5)) (inS1 3 rfl) rfl
theorem q_sX5_areAllContent : Cond.selects RX5 yX5_areAllContent yX5_areAllContent ∈ lwT := inSel (q := (yX5_areAllContent, 5)) (inS1 4 rfl) rfl
theorem q_sX5_hasWaxAt : Cond.selects RX5 yX5_hasWaxAt yX5_hasWaxAt ∈ lwT := inSel (q := (yX5_hasWaxAt, 5)) (inS1 5 rfl) rfl
theorem q_sX5_widestHinge : Cond.selects RX5 yX5_widestHinge yX5_widestHinge ∈ lwT := inSel (q := (yX5_widestHinge, 5)) (inS1 6 rfl) rfl
theorem q_sX6_isLeaf : Cond.selects RX6 yX6_isLeaf yX6_isLeaf ∈ lwT := inSel (q := (yX6_isLeaf, 9)) (inS1 7 rfl) rfl
theorem q_sX6_isPlace : Cond.selects RX6 yX6_isPlace yX6_isPlace ∈ lwT := inSel (q := (yX6_isPlace, 9)) (inS1 8 rfl) rfl
theorem q_sX0_find : Cond.selects RX0 yX0_find yX0_find ∈ lwT := inSel (q := (yX0_find, 5)) (inS1 9 rfl) rfl
theorem q_sX6_openHinges : Cond.selects RX6 yX6_openHinges yX6_openHinges ∈ lwT := inSel (q := (yX6_openHinges, 9)) (inS1 10 rfl) rfl
theorem q_sX6_isWithoutStrip : Cond.selects RX6 yX6_isWithoutStrip yX6_isWithoutStrip ∈ lwT := inSel (q := (yX6_isWithoutStrip, 9)) (inS1 11 rfl) rfl
theorem q_sX6_isOrder : Cond.selects RX6 yX6_isOrder yX6_isOrder ∈ lwT := inSel (q := (yX6_isOrder, 9)) (inS1 12 rfl) rfl
theorem q_sX3_findSteps : Cond.selects RX3 yX3_findSteps yX3_findSteps ∈ lwT := inSel (q := (yX3_findSteps, 8)) (inS1 13 rfl) rfl
theorem q_sX3_findStepsFrom : Cond.selects RX3 yX3_findStepsFrom yX3_findStepsFrom ∈ lwT := inSel (q := (yX3_findStepsFrom, 8)) (inS1 14 rfl) rfl
theorem q_sX3_addStep : Cond.selects RX3 yX3_addStep yX3_addStep ∈ lwT := inSel (q := (yX3_addStep, 8)) (inS1 15 rfl) rfl
theorem q_sX3_spread : Cond.selects RX3 yX3_spread yX3_spread ∈ lwT := inSel (q := (yX3_spread, 8)) (inS2 0 rfl) rfl
theorem q_sX6_farthest : Cond.selects RX6 yX6_farthest yX6_farthest ∈ lwT := inSel (q := (yX6_farthest, 9)) (inS2 1 rfl) rfl
theorem q_sX6_home : Cond.selects RX6 yX6_home yX6_home ∈ lwT := inSel (q := (yX6_home, 9)) (inS2 2 rfl) rfl
theorem q_sX1_isPossible : Cond.selects RX1 yX1_isPossible yX1_isPossible ∈ lwT := inSel (q := (yX1_isPossible, 3)) (inS2 3 rfl) rfl
theorem q_sX1_countThrough : Cond.selects RX1 yX1_countThrough yX1_countThrough ∈ lwT := inSel (q := (yX1_countThrough, 3)) (inS2 4 rfl) rfl
theorem q_sX6_wholeThickness : Cond.selects RX6 yX6_wholeThickness yX6_wholeThickness ∈ lwT := inSel (q := (yX6_wholeThickness, 9)) (inS2 5 rfl) rfl
theorem q_sX6_contentLeaves : Cond.selects RX6 yX6_contentLeaves yX6_contentLeaves ∈ lwT := inSel (q := (yX6_contentLeaves, 9)) (inS2 6 rfl) rfl
theorem q_sX6_possibleMoves : Cond.selects RX6 yX6_possibleMoves yX6_possibleMoves ∈ lwT := inSel (q := (yX6_possibleMoves, 9)) (inS2 7 rfl) rfl
theorem q_sX6_withOrders : Cond.selects RX6 yX6_withOrders yX6_withOrders ∈ lwT := inSel (q := (yX6_withOrders, 9)) (inS2 8 rfl) rfl
theorem q_sX7_faultOf : Cond.selects RX7 yX7_faultOf yX7_faultOf ∈ lwT := inSel (q := (yX7_faultOf, 26)) (inS2 9 rfl) rfl
theorem q_sX7_layOrders : Cond.selects RX7 yX7_layOrders yX7_layOrders ∈ lwT := inSel (q := (yX7_layOrders, 26)) (inS2 10 rfl) rfl
theorem q_sX7_isFolded : Cond.selects RX7 yX7_isFolded yX7_isFolded ∈ lwT := inSel (q := (yX7_isFolded, 26)) (inS2 11 rfl) rfl
theorem q_sX7_layPlaces : Cond.selects RX7 yX7_layPlaces yX7_layPlaces ∈ lwT := inSel (q := (yX7_layPlaces, 26)) (inS2 12 rfl) rfl
theorem q_sX7_isStepped : Cond.selects RX7 yX7_isStepped yX7_isStepped ∈ lwT := inSel (q := (yX7_isStepped, 26)) (inS2 13 rfl) rfl
theorem q_sX7_trade : Cond.selects RX7 yX7_trade yX7_trade ∈ lwT := inSel (q := (yX7_trade, 26)) (inS2 14 rfl) rfl
theorem q_sX7_isOrder : Cond.selects RX7 yX7_isOrder yX7_isOrder ∈ lwT := inSel (q := (yX7_isOrder, 26)) (inS2 15 rfl) rfl
theorem q_sX7_lacks : Cond.selects RX7 yX7_lacks yX7_lacks ∈ lwT := inSel (q := (yX7_lacks, 26)) (inS3 0 rfl) rfl
theorem q_sX7_nearOf : Cond.selects RX7 yX7_nearOf yX7_nearOf ∈ lwT := inSel (q := (yX7_nearOf, 26)) (inS3 1 rfl) rfl
theorem q_sX7_layFar : Cond.selects RX7 yX7_layFar yX7_layFar ∈ lwT := inSel (q := (yX7_layFar, 26)) (inS3 2 rfl) rfl
theorem q_sX7_orderNow : Cond.selects RX7 yX7_orderNow yX7_orderNow ∈ lwT := inSel (q := (yX7_orderNow, 26)) (inS3 3 rfl) rfl
theorem q_sX7_orderOf : Cond.selects RX7 yX7_orderOf yX7_orderOf ∈ lwT := inSel (q := (yX7_orderOf, 26)) (inS3 4 rfl) rfl
theorem q_sX7_layRow : Cond.selects RX7 yX7_layRow yX7_layRow ∈ lwT := inSel (q := (yX7_layRow, 26)) (inS3 5 rfl) rfl
theorem q_sX7_codeBy : Cond.selects RX7 yX7_codeBy yX7_codeBy ∈ lwT := inSel (q := (yX7_codeBy, 26)) (inS3 6 rfl) rfl
theorem q_sX7_farthestOf : Cond.selects RX7 yX7_farthestOf yX7_farthestOf ∈ lwT := inSel (q := (yX7_farthestOf, 26)) (inS3 7 rfl) rfl
theorem q_sX7_homeOf : Cond.selects RX7 yX7_homeOf yX7_homeOf ∈ lwT := inSel (q := (yX7_homeOf, 26)) (inS3 8 rfl) rfl
theorem q_sX7_isFitOrder : Cond.selects RX7 yX7_isFitOrder yX7_isFitOrder ∈ lwT := inSel (q := (yX7_isFitOrder, 26)) (inS3 9 rfl) rfl
theorem q_sX7_isFit : Cond.selects RX7 yX7_isFit yX7_isFit ∈ lwT := inSel (q := (yX7_isFit, 26)) (inS3 10 rfl) rfl
theorem q_sX7_rightMany : Cond.selects RX7 yX7_rightMany yX7_rightMany ∈ lwT := inSel (q := (yX7_rightMany, 26)) (inS3 11 rfl) rfl
theorem q_sX7_isRight : Cond.selects RX7 yX7_isRight yX7_isRight ∈ lwT := inSel (q := (yX7_isRight, 26)) (inS3 12 rfl) rfl
theorem q_sX7_isSticky : Cond.selects RX7 yX7_isSticky yX7_isSticky ∈ lwT := inSel (q := (yX7_isSticky, 26)) (inS3 13 rfl) rfl
theorem q_sX7_trimOf : Cond.selects RX7 yX7_trimOf yX7_trimOf ∈ lwT := inSel (q := (yX7_trimOf, 26)) (inS3 14 rfl) rfl
theorem q_sX7_widest : Cond.selects RX7 yX7_widest yX7_widest ∈ lwT := inSel (q := (yX7_widest, 26)) (inS3 15 rfl) rfl
theorem q_sX7_wideOf : Cond.selects RX7 yX7_wideOf yX7_wideOf ∈ lwT := inSel (q := (yX7_wideOf, 26)) (inS4 0 rfl) rfl
theorem q_sX7_thick : Cond.selects RX7 yX7_thick yX7_thick ∈ lwT := inSel (q := (yX7_thick, 26)) (inS4 1 rfl) rfl
theorem q_sX7_isLeaf : Cond.selects RX7 yX7_isLeaf yX7_isLeaf ∈ lwT := inSel (q := (yX7_isLeaf, 26)) (inS4 2 rfl) rfl
theorem q_sX7_oddsOf : Cond.selects RX7 yX7_oddsOf yX7_oddsOf ∈ lwT := inSel (q := (yX7_oddsOf, 26)) (inS4 3 rfl) rfl
theorem q_sX7_tellLeaf : Cond.selects RX7 yX7_tellLeaf yX7_tellLeaf ∈ lwT := inSel (q := (yX7_tellLeaf, 26)) (inS4 4 rfl) rfl
theorem q_sX7_ordersOf : Cond.selects RX7 yX7_ordersOf yX7_ordersOf ∈ lwT := inSel (q := (yX7_ordersOf, 26)) (inS4 5 rfl) rfl
theorem q_sX7_fitMany : Cond.selects RX7 yX7_fitMany yX7_fitMany ∈ lwT := inSel (q := (yX7_fitMany, 26)) (inS4 6 rfl) rfl
theorem q_sX7_tellOrder : Cond.selects RX7 yX7_tellOrder yX7_tellOrder ∈ lwT := inSel (q := (yX7_tellOrder, 26)) (inS4 7 rfl) rfl
theorem q_sX7_topsOf : Cond.selects RX7 yX7_topsOf yX7_topsOf ∈ lwT := inSel (q := (yX7_topsOf, 26)) (inS4 8 rfl) rfl
theorem q_sX7_widerMany : Cond.selects RX7 yX7_widerMany yX7_widerMany ∈ lwT := inSel (q := (yX7_widerMany, 26)) (inS4 9 rfl) rfl
theorem q_sX7_couldOf : Cond.selects RX7 yX7_couldOf yX7_couldOf ∈ lwT := inSel (q := (yX7_couldOf, 26)) (inS4 10 rfl) rfl
theorem q_sX7_isLikely : Cond.selects RX7 yX7_isLikely yX7_isLikely ∈ lwT := inSel (q := (yX7_isLikely, 26)) (inS4 11 rfl) rfl
theorem q_sX7_trialOf : Cond.selects RX7 yX7_trialOf yX7_trialOf ∈ lwT := inSel (q := (yX7_trialOf, 26)) (inS4 12 rfl) rfl
theorem q_sX7_worstBy : Cond.selects RX7 yX7_worstBy yX7_worstBy ∈ lwT := inSel (q := (yX7_worstBy, 26)) (inS4 13 rfl) rfl
theorem q_sX7_draw : Cond.selects RX7 yX7_draw yX7_draw ∈ lwT := inSel (q := (yX7_draw, 26)) (inS4 14 rfl) rfl
theorem q_sX7_countOf : Cond.selects RX7 yX7_countOf yX7_countOf ∈ lwT := inSel (q := (yX7_countOf, 26)) (inS4 15 rfl) rfl
theorem q_sX7_thickAll : Cond.selects RX7 yX7_thickAll yX7_thickAll ∈ lwT := inSel (q := (yX7_thickAll, 26)) (inS5 0 rfl) rfl
theorem q_sX7_movesNow : Cond.selects RX7 yX7_movesNow yX7_movesNow ∈ lwT := inSel (q := (yX7_movesNow, 26)) (inS5 1 rfl) rfl
theorem q_sX7_say : Cond.selects RX7 yX7_say yX7_say ∈ lwT := inSel (q := (yX7_say, 26)) (inS5 2 rfl) rfl
theorem q_sX7_sayStrip : Cond.selects RX7 yX7_sayStrip yX7_sayStrip ∈ lwT := inSel (q := (yX7_sayStrip, 26)) (inS5 3 rfl) rfl
theorem gV {Ts : List Cond} (hT : ∀ w ∈ lwT, w ∈ Ts) {own : String} {idx : Nat} {C : String} {y : MethodName} {cB : Cond} (h1 : Cond.methodLink own idx y ∈ lwT) (h2 : Cond.instanceMethod y ∈ lwT) (h3 : Cond.selects C y y ∈ lwT) (h4 : Cond.initialized C ∈ lwT) (h5 : cB ∈ lwT) : GoodIn Ts (wsV own idx C y (cB :: lwT)) := by
  have hq : ∀ w ∈ wsV own idx C y (cB :: lwT), w ∈ lwT := by
    intro w hw
    unfold wsV at hw
    rcases List.mem_append.mp hw with h | h
    · simp only [List.mem_cons, List.not_mem_nil, or_false] at h
      rcases h with rfl | rfl | rfl | rfl <;> assumption
    · rcases List.mem_cons.mp h with rfl | h
      · exact h5
      · exact h
  exact fun w hw => ⟨hT w (hq w hw), lwT_good w (hq w hw)⟩
theorem gS {Ts : List Cond} (hT : ∀ w ∈ lwT, w ∈ Ts) {own : String} {idx : Nat} {y : MethodName} {cB : Cond} (h1 : Cond.methodLink own idx y ∈ lwT) (h2 : Cond.static y ∈ lwT) (h4 : Cond.initialized own ∈ lwT) (h5 : cB ∈ lwT) : GoodIn Ts (wsS own idx y (cB :: lwT)) := by
  have hq : ∀ w ∈ wsS own idx y (cB :: lwT), w ∈ lwT := by
    intro w hw
    unfold wsS at hw
    rcases List.mem_append.mp hw with h | h
    · simp only [List.mem_cons, List.not_mem_nil, or_false] at h
      rcases h with rfl | rfl | rfl <;> assumption
    · rcases List.mem_cons.mp h with rfl | h
      · exact h5
      · exact h
  exact fun w hw => ⟨hT w (hq w hw), lwT_good w (hq w hw)⟩
theorem gI {Ts : List Cond} (hT : ∀ w ∈ lwT, w ∈ Ts) {cB : Cond} (h5 : cB ∈ lwT) : GoodIn Ts (cB :: lwT) := by
  have hq : ∀ w ∈ cB :: lwT, w ∈ lwT := fun w hw => (List.mem_cons.mp hw).elim (fun e => e ▸ h5) id
  exact fun w hw => ⟨hT w (hq w hw), lwT_good w (hq w hw)⟩
theorem inX0 : ∀ w ∈ u_ws RX0 TX0 5, w ∈ lwT := by
  intro w hw
  obtain ⟨k, hk, rfl⟩ := List.mem_map.mp hw
  have hk : k < 5 := List.mem_range.mp hk
  match k, hk with
  | 0, _ => exact q_58
  | 1, _ => exact q_60
  | 2, _ => exact q_62
  | 3, _ => exact q_64
  | 4, _ => exact q_66
  | k + 5, h => exact absurd h (by omega)
theorem inX1 : ∀ w ∈ u_ws RX1 TX1 3, w ∈ lwT := by
  intro w hw
  obtain ⟨k, hk, rfl⟩ := List.mem_map.mp hw
  have hk : k < 3 := List.mem_range.mp hk
  match k, hk with
  | 0, _ => exact q_169
  | 1, _ => exact q_171
  | 2, _ => exact q_173
  | k + 3, h => exact absurd h (by omega)
theorem inX2 : ∀ w ∈ u_ws RX2 TX2 2, w ∈ lwT := by
  intro w hw
  obtain ⟨k, hk, rfl⟩ := List.mem_map.mp hw
  have hk : k < 2 := List.mem_range.mp hk
  match k, hk with
  | 0, _ => exact q_33
  | 1, _ => exact q_35
  | k + 2, h => exact absurd h (by omega)
theorem inX3 : ∀ w ∈ u_ws RX3 TX3 8, w ∈ lwT := by
  intro w hw
  obtain ⟨k, hk, rfl⟩ := List.mem_map.mp hw
  have hk : k < 8 := List.mem_range.mp hk
  match k, hk with
  | 0, _ => exact q_143
  | 1, _ => exact q_145
  | 2, _ => exact q_147
  | 3, _ => exact q_149
  | 4, _ => exact q_151
  | 5, _ => exact q_153
  | 6, _ => exact q_155
  | 7, _ => exact q_157
  | k + 8, h => exact absurd h (by omega)
theorem inX4 : ∀ w ∈ u_ws RX4 TX4 7, w ∈ lwT := by
  intro w hw
  obtain ⟨k, hk, rfl⟩ := List.mem_map.mp hw
  have hk : k < 7 := List.mem_range.mp hk
  match k, hk with
  | 0, _ => exact q_90
  | 1, _ => exact q_92
  | 2, _ => exact q_94
  | 3, _ => exact q_96
  | 4, _ => exact q_98
  | 5, _ => exact q_100
  | 6, _ => exact q_102
  | k + 7, h => exact absurd h (by omega)
theorem inX5 : ∀ w ∈ u_ws RX5 TX5 5, w ∈ lwT := by
  intro w hw
  obtain ⟨k, hk, rfl⟩ := List.mem_map.mp hw
  have hk : k < 5 := List.mem_range.mp hk
  match k, hk with
  | 0, _ => exact q_118
  | 1, _ => exact q_120
  | 2, _ => exact q_122
  | 3, _ => exact q_124
  | 4, _ => exact q_126
  | k + 5, h => exact absurd h (by omega)
theorem inX6 : ∀ w ∈ u_ws RX6 TX6 9, w ∈ lwT := by
  intro w hw
  obtain ⟨k, hk, rfl⟩ := List.mem_map.mp hw
  have hk : k < 9 := List.mem_range.mp hk
  match k, hk with
  | 0, _ => exact q_185
  | 1, _ => exact q_187
  | 2, _ => exact q_189
  | 3, _ => exact q_191
  | 4, _ => exact q_193
  | 5, _ => exact q_195
  | 6, _ => exact q_197
  | 7, _ => exact q_199
  | 8, _ => exact q_201
  | k + 9, h => exact absurd h (by omega)
theorem inX7 : ∀ w ∈ u_ws RX7 TX7 26, w ∈ lwT := by
  intro w hw
  obtain ⟨k, hk, rfl⟩ := List.mem_map.mp hw
  have hk : k < 26 := List.mem_range.mp hk
  match k, hk with
  | 0, _ => exact q_698
  | 1, _ => exact q_700
  | 2, _ => exact q_702
  | 3, _ => exact q_704
  | 4, _ => exact q_706
  | 5, _ => exact q_708
  | 6, _ => exact q_710
  | 7, _ => exact q_712
  | 8, _ => exact q_714
  | 9, _ => exact q_716
  | 10, _ => exact q_718
  | 11, _ => exact q_720
  | 12, _ => exact q_722
  | 13, _ => exact q_724
  | 14, _ => exact q_726
  | 15, _ => exact q_728
  | 16, _ => exact q_730
  | 17, _ => exact q_732
  | 18, _ => exact q_734
  | 19, _ => exact q_736
  | 20, _ => exact q_738
  | 21, _ => exact q_740
  | 22, _ => exact q_742
  | 23, _ => exact q_744
  | 24, _ => exact q_746
  | 25, _ => exact q_748
  | k + 26, h => exact absurd h (by omega)
