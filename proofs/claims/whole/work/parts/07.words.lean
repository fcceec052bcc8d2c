/-! ONE LIST OF WORDS for all contracts: the good ones of lw_tbl; where each stands. Printed by wip/gen/names.py -/
def gb : List Cond := lw_tbl.filter goodWord
theorem gb_lw {w : Cond} (h : w ∈ gb) : w ∈ lw_tbl := (List.mem_filter.mp h).1
theorem gb_good {w : Cond} (h : w ∈ gb) : goodWord w = true := (List.mem_filter.mp h).2
theorem gb_of {w : Cond} (h : w ∈ lw_tbl) (g : goodWord w = true) : w ∈ gb := List.mem_filter.mpr ⟨h, g⟩
theorem gb_t {w : Cond} (h : w ∈ tables_1) (g : goodWord w = true) : w ∈ gb := gb_of (List.mem_append_right _ h) g
theorem gb_hts {args : Array Value} {s : State} (h : ∀ w ∈ lw_tbl, w.before args s = true) : ∀ w ∈ gb, w.before args s = true := fun w hw => h w (gb_lw hw)
theorem gm_1 {w : Cond} (i : Nat) (h : tables_1_1[i]? = some w) (g : goodWord w = true) : w ∈ gb := gb_t (List.mem_append_left _ (List.mem_of_getElem? h)) g
theorem gm_2 {w : Cond} (i : Nat) (h : tables_1_2[i]? = some w) (g : goodWord w = true) : w ∈ gb := gb_t (List.mem_append_right _ (List.mem_append_left _ (List.mem_of_getElem? h))) g
theorem gm_3 {w : Cond} (i : Nat) (h : tables_1_3[i]? = some w) (g : goodWord w = true) : w ∈ gb := gb_t (List.mem_append_right _ (List.mem_append_right _ (List.mem_append_left _ (List.mem_of_getElem? h)))) g
theorem gm_4 {w : Cond} (i : Nat) (h : tables_1_4[i]? = some w) (g : goodWord w = true) : w ∈ gb := gb_t (List.mem_append_right _ (List.mem_append_right _ (List.mem_append_right _ (List.mem_append_left _ (List.mem_of_getElem? h))))) g
theorem gm_5 {w : Cond} (i : Nat) (h : tables_1_5[i]? = some w) (g : goodWord w = true) : w ∈ gb := gb_t (List.mem_append_right _ (List.mem_append_right _ (List.mem_append_right _ (List.mem_append_right _ (List.mem_append_left _ (List.mem_of_getElem? h)))))) g
theorem gm_6 {w : Cond} (i : Nat) (h : tables_1_6[i]? = some w) (g : goodWord w = true) : w ∈ gb := gb_t (List.mem_append_right _ (List.mem_append_right _ (List.mem_append_right _ (List.mem_append_right _ (List.mem_append_right _ (List.mem_append_left _ (List.mem_of_getElem? h))))))) g
theorem gm_7 {w : Cond} (i : Nat) (h : tables_1_7[i]? = some w) (g : goodWord w = true) : w ∈ gb := gb_t (List.mem_append_right _ (List.mem_append_right _ (List.mem_append_right _ (List.mem_append_right _ (List.mem_append_right _ (List.mem_append_right _ (List.mem_append_left _ (List.mem_of_getElem? h)))))))) g
theorem gm_8 {w : Cond} (i : Nat) (h : tables_1_8[i]? = some w) (g : goodWord w = true) : w ∈ gb := gb_t (List.mem_append_right _ (List.mem_append_right _ (List.mem_append_right _ (List.mem_append_right _ (List.mem_append_right _ (List.mem_append_right _ (List.mem_append_right _ (List.mem_append_left _ (List.mem_of_getElem? h))))))))) g
theorem gm_9 {w : Cond} (i : Nat) (h : tables_1_9[i]? = some w) (g : goodWord w = true) : w ∈ gb := gb_t (List.mem_append_right _ (List.mem_append_right _ (List.mem_append_right _ (List.mem_append_right _ (List.mem_append_right _ (List.mem_append_right _ (List.mem_append_right _ (List.mem_append_right _ (List.mem_of_getElem? h))))))))) g
theorem gs_1 (q : MethodName × Nat) (i : Nat) (h : lw_privs_1[i]? = some q) : Cond.selects q.1.cls q.1 q.1 ∈ gb := gb_of (List.mem_append_left _ (List.mem_map.mpr ⟨q, List.mem_append_left _ (List.mem_of_getElem? h), rfl⟩)) rfl
theorem gs_2 (q : MethodName × Nat) (i : Nat) (h : lw_privs_2[i]? = some q) : Cond.selects q.1.cls q.1 q.1 ∈ gb := gb_of (List.mem_append_left _ (List.mem_map.mpr ⟨q, List.mem_append_right _ (List.mem_append_left _ (List.mem_of_getElem? h)), rfl⟩)) rfl
theorem gs_3 (q : MethodName × Nat) (i : Nat) (h : lw_privs_3[i]? = some q) : Cond.selects q.1.cls q.1 q.1 ∈ gb := gb_of (List.mem_append_left _ (List.mem_map.mpr ⟨q, List.mem_append_right _ (List.mem_append_right _ (List.mem_append_left _ (List.mem_of_getElem? h))), rfl⟩)) rfl
theorem gs_4 (q : MethodName × Nat) (i : Nat) (h : lw_privs_4[i]? = some q) : Cond.selects q.1.cls q.1 q.1 ∈ gb := gb_of (List.mem_append_left _ (List.mem_map.mpr ⟨q, List.mem_append_right _ (List.mem_append_right _ (List.mem_append_right _ (List.mem_append_left _ (List.mem_of_getElem? h)))), rfl⟩)) rfl
theorem gs_5 (q : MethodName × Nat) (i : Nat) (h : lw_privs_5[i]? = some q) : Cond.selects q.1.cls q.1 q.1 ∈ gb := gb_of (List.mem_append_left _ (List.mem_map.mpr ⟨q, List.mem_append_right _ (List.mem_append_right _ (List.mem_append_right _ (List.mem_append_right _ (List.mem_append_left _ (List.mem_of_getElem? h))))), rfl⟩)) rfl
theorem gs_6 (q : MethodName × Nat) (i : Nat) (h : lw_privs_6[i]? = some q) : Cond.selects q.1.cls q.1 q.1 ∈ gb := gb_of (List.mem_append_left _ (List.mem_map.mpr ⟨q, List.mem_append_right _ (List.mem_append_right _ (List.mem_append_right _ (List.mem_append_right _ (List.mem_append_right _ (List.mem_of_getElem? h))))), rfl⟩)) rfl
theorem kw_0 : (Jvm.Cond.initialized "JoinedTreesLaw") ∈ gb := gm_1 0 rfl rfl
theorem kw_1 : (Jvm.Cond.initialized "JoinedTrees") ∈ gb := gm_1 1 rfl rfl
theorem kw_2 : (Jvm.Cond.initialized "JoinedTrees$Store") ∈ gb := gm_1 2 rfl rfl
theorem kw_3 : (Jvm.Cond.initialized "JoinedTrees$Op") ∈ gb := gm_1 3 rfl rfl
theorem kw_4 : (Jvm.Cond.initialized "JoinedTrees$Row") ∈ gb := gm_1 4 rfl rfl
theorem kw_5 : (Jvm.Cond.initialized "JoinedTrees$Replica") ∈ gb := gm_1 5 rfl rfl
theorem kw_6 : (Jvm.Cond.initialized "JoinedTrees$View") ∈ gb := gm_1 6 rfl rfl
theorem kw_7 : (Jvm.Cond.initialized "JoinedTrees$JsonReader") ∈ gb := gm_1 7 rfl rfl
theorem kw_8 : (Jvm.Cond.initialized "JoinedTrees$Value") ∈ gb := gm_1 8 rfl rfl
theorem kw_9 : (Jvm.Cond.initialized "JoinedTrees$JsonWriter") ∈ gb := gm_1 9 rfl rfl
theorem kw_10 : (Jvm.Cond.initialized "JoinedTrees$Saver") ∈ gb := gm_1 10 rfl rfl
theorem kw_11 : (Jvm.Cond.initialized "JoinedTreesModel") ∈ gb := gm_1 11 rfl rfl
theorem kw_12 : (Jvm.Cond.initialized "java/lang/Throwable") ∈ gb := gm_1 12 rfl rfl
theorem kw_13 : (Jvm.Cond.initialized "java/lang/Exception") ∈ gb := gm_1 13 rfl rfl
theorem kw_14 : (Jvm.Cond.initialized "java/lang/RuntimeException") ∈ gb := gm_1 14 rfl rfl
theorem kw_15 : (Jvm.Cond.initialized "java/lang/IndexOutOfBoundsException") ∈ gb := gm_1 15 rfl rfl
theorem kw_16 : (Jvm.Cond.initialized "java/lang/IllegalArgumentException") ∈ gb := gm_1 16 rfl rfl
theorem kw_17 : (Jvm.Cond.initialized "java/lang/System") ∈ gb := gm_1 17 rfl rfl
theorem kw_18 : (Jvm.Cond.initialized "java/util/NoSuchElementException") ∈ gb := gm_1 18 rfl rfl
theorem kw_19 : (Jvm.Cond.initialized "java/lang/IllegalStateException") ∈ gb := gm_1 19 rfl rfl
theorem kw_20 : (Jvm.Cond.initialized "JoinedTrees$Spot") ∈ gb := gm_1 20 rfl rfl
theorem kw_21 : (Jvm.Cond.initialized "java/lang/Math") ∈ gb := gm_1 21 rfl rfl
theorem kw_22 : (Jvm.Cond.initialized "java/lang/String") ∈ gb := gm_1 22 rfl rfl
theorem kw_23 : (Jvm.Cond.initialized "java/lang/StringLatin1") ∈ gb := gm_1 23 rfl rfl
theorem kw_24 : (Jvm.Cond.initialized "jdk/internal/util/Preconditions") ∈ gb := gm_1 24 rfl rfl
theorem kw_25 : (Jvm.Cond.initialized "java/lang/StringUTF16") ∈ gb := gm_1 25 rfl rfl
theorem kw_26 : (Jvm.Cond.initialized "JoinedTrees$Change") ∈ gb := gm_1 26 rfl rfl
theorem kw_27 : (Jvm.Cond.initialized "java/lang/ArithmeticException") ∈ gb := gm_1 27 rfl rfl
theorem kw_28 : (Jvm.Cond.classLink "JoinedTreesLaw" (8 : Nat) "JoinedTrees") ∈ gb := gm_1 28 rfl rfl
theorem kw_29 : (Jvm.Cond.instantiable "JoinedTrees" (13 : Nat)) ∈ gb := gm_1 29 rfl rfl
theorem kw_30 : (Jvm.Cond.methodLink "JoinedTreesLaw" (110 : Nat) ({ cls := "JoinedTrees", name := "<init>", desc := "()V" } : Jvm.MethodName)) ∈ gb := gm_1 30 rfl rfl
theorem kw_31 : (Jvm.Cond.instanceMethod ({ cls := "JoinedTrees", name := "<init>", desc := "()V" } : Jvm.MethodName)) ∈ gb := gm_1 31 rfl rfl
theorem kw_32 : (Jvm.Cond.code ({ cls := "JoinedTrees", name := "<init>", desc := "()V" } : Jvm.MethodName) prog_1_method_1_code (2 : Nat) (Option.none : Option Jvm.ClassFile.FieldType)) ∈ gb := gm_1 32 rfl rfl
theorem kw_33 : (Jvm.Cond.methodLink "JoinedTrees" (3 : Nat) ({ cls := "java/lang/Object", name := "<init>", desc := "()V" } : Jvm.MethodName)) ∈ gb := gm_1 33 rfl rfl
theorem kw_34 : (Jvm.Cond.instanceMethod ({ cls := "java/lang/Object", name := "<init>", desc := "()V" } : Jvm.MethodName)) ∈ gb := gm_1 34 rfl rfl
theorem kw_35 : (Jvm.Cond.code ({ cls := "java/lang/Object", name := "<init>", desc := "()V" } : Jvm.MethodName) object_method_1_code (1 : Nat) (Option.none : Option Jvm.ClassFile.FieldType)) ∈ gb := gm_1 35 rfl rfl
theorem kw_36 : (Jvm.Cond.classLink "JoinedTrees" (9 : Nat) "JoinedTrees$Store") ∈ gb := gm_1 36 rfl rfl
theorem kw_37 : (Jvm.Cond.instantiable "JoinedTrees$Store" (6 : Nat)) ∈ gb := gm_1 37 rfl rfl
theorem kw_39 : (Jvm.Cond.instanceMethod ({ cls := "JoinedTrees$Store", name := "<init>", desc := "()V" } : Jvm.MethodName)) ∈ gb := gm_1 39 rfl rfl
theorem kw_40 : (Jvm.Cond.code ({ cls := "JoinedTrees$Store", name := "<init>", desc := "()V" } : Jvm.MethodName) prog_10_method_1_code (1 : Nat) (Option.none : Option Jvm.ClassFile.FieldType)) ∈ gb := gm_1 40 rfl rfl
theorem kw_41 : (Jvm.Cond.methodLink "JoinedTrees$Store" (3 : Nat) ({ cls := "java/lang/Object", name := "<init>", desc := "()V" } : Jvm.MethodName)) ∈ gb := gm_1 41 rfl rfl
theorem kw_42 : (Jvm.Cond.classLink "JoinedTrees$Store" (9 : Nat) "JoinedTrees$Op") ∈ gb := gm_1 42 rfl rfl
theorem kw_43 : (Jvm.Cond.instantiable "JoinedTrees$Op" (15 : Nat)) ∈ gb := gm_1 43 rfl rfl
theorem kw_44 : (Jvm.Cond.methodLink "JoinedTrees$Store" (11 : Nat) ({ cls := "JoinedTrees$Op", name := "<init>", desc := "(ILJoinedTrees$Op;IJ)V" } : Jvm.MethodName)) ∈ gb := gm_1 44 rfl rfl
theorem kw_45 : (Jvm.Cond.instanceMethod ({ cls := "JoinedTrees$Op", name := "<init>", desc := "(ILJoinedTrees$Op;IJ)V" } : Jvm.MethodName)) ∈ gb := gm_1 45 rfl rfl
theorem kw_46 : (Jvm.Cond.code ({ cls := "JoinedTrees$Op", name := "<init>", desc := "(ILJoinedTrees$Op;IJ)V" } : Jvm.MethodName) prog_5_method_1_code (6 : Nat) (Option.none : Option Jvm.ClassFile.FieldType)) ∈ gb := gm_1 46 rfl rfl
theorem kw_47 : (Jvm.Cond.methodLink "JoinedTrees$Op" (3 : Nat) ({ cls := "java/lang/Object", name := "<init>", desc := "()V" } : Jvm.MethodName)) ∈ gb := gm_1 47 rfl rfl
theorem kw_48 : (Jvm.Cond.fieldLink "JoinedTrees$Op" (9 : Nat) "JoinedTrees$Op" "id" "I") ∈ gb := gm_1 48 rfl rfl
theorem kw_49 : (Jvm.Cond.fieldLink "JoinedTrees$Spot" (22 : Nat) "JoinedTrees$Op" "id" "I") ∈ gb := gm_1 49 rfl rfl
theorem kw_50 : (Jvm.Cond.fieldLink "JoinedTrees$Store" (70 : Nat) "JoinedTrees$Op" "id" "I") ∈ gb := gm_1 50 rfl rfl
theorem kw_51 : (Jvm.Cond.fieldLink "JoinedTrees$View" (50 : Nat) "JoinedTrees$Op" "id" "I") ∈ gb := gm_1 51 rfl rfl
theorem kw_52 : (Jvm.Cond.fieldLink "JoinedTrees" (140 : Nat) "JoinedTrees$Op" "id" "I") ∈ gb := gm_1 52 rfl rfl
theorem kw_53 : (Jvm.Cond.fieldLink "JoinedTrees$Saver" (129 : Nat) "JoinedTrees$Op" "id" "I") ∈ gb := gm_1 53 rfl rfl
theorem kw_54 : (Jvm.Cond.fieldLink "JoinedTrees$Op" (15 : Nat) "JoinedTrees$Op" "object" "LJoinedTrees$Op;") ∈ gb := gm_1 54 rfl rfl
theorem kw_55 : (Jvm.Cond.fieldLink "JoinedTrees$JsonWriter" (63 : Nat) "JoinedTrees$Op" "object" "LJoinedTrees$Op;") ∈ gb := gm_1 55 rfl rfl
theorem kw_56 : (Jvm.Cond.fieldLink "JoinedTrees$Store" (103 : Nat) "JoinedTrees$Op" "object" "LJoinedTrees$Op;") ∈ gb := gm_1 56 rfl rfl
theorem kw_57 : (Jvm.Cond.fieldLink "JoinedTrees$Saver" (123 : Nat) "JoinedTrees$Op" "object" "LJoinedTrees$Op;") ∈ gb := gm_1 57 rfl rfl
theorem kw_58 : (Jvm.Cond.fieldLink "JoinedTrees" (313 : Nat) "JoinedTrees$Op" "object" "LJoinedTrees$Op;") ∈ gb := gm_1 58 rfl rfl
theorem kw_59 : (Jvm.Cond.fieldLink "JoinedTrees$Op" (19 : Nat) "JoinedTrees$Op" "sort" "I") ∈ gb := gm_1 59 rfl rfl
theorem kw_60 : (Jvm.Cond.fieldLink "JoinedTrees$JsonWriter" (27 : Nat) "JoinedTrees$Op" "sort" "I") ∈ gb := gm_1 60 rfl rfl
theorem kw_61 : (Jvm.Cond.fieldLink "JoinedTrees$View" (77 : Nat) "JoinedTrees$Op" "sort" "I") ∈ gb := gm_1 61 rfl rfl
theorem kw_62 : (Jvm.Cond.fieldLink "JoinedTrees" (171 : Nat) "JoinedTrees$Op" "sort" "I") ∈ gb := gm_1 62 rfl rfl
theorem kw_63 : (Jvm.Cond.fieldLink "JoinedTrees$Saver" (132 : Nat) "JoinedTrees$Op" "sort" "I") ∈ gb := gm_1 63 rfl rfl
theorem kw_64 : (Jvm.Cond.fieldLink "JoinedTrees$Op" (22 : Nat) "JoinedTrees$Op" "n" "J") ∈ gb := gm_1 64 rfl rfl
theorem kw_65 : (Jvm.Cond.fieldLink "JoinedTrees$Saver" (164 : Nat) "JoinedTrees$Op" "n" "J") ∈ gb := gm_1 65 rfl rfl
theorem kw_66 : (Jvm.Cond.fieldLink "JoinedTrees$View" (97 : Nat) "JoinedTrees$Op" "n" "J") ∈ gb := gm_1 66 rfl rfl
theorem kw_67 : (Jvm.Cond.fieldLink "JoinedTrees$Store" (61 : Nat) "JoinedTrees$Op" "change" "I") ∈ gb := gm_1 67 rfl rfl
theorem kw_68 : (Jvm.Cond.fieldLink "JoinedTrees$View" (47 : Nat) "JoinedTrees$Op" "change" "I") ∈ gb := gm_1 68 rfl rfl
theorem kw_69 : (Jvm.Cond.fieldLink "JoinedTrees$Store" (110 : Nat) "JoinedTrees$Op" "inserts" "Z") ∈ gb := gm_1 69 rfl rfl
theorem kw_70 : (Jvm.Cond.fieldLink "JoinedTrees$Saver" (135 : Nat) "JoinedTrees$Op" "inserts" "Z") ∈ gb := gm_1 70 rfl rfl
theorem kw_71 : (Jvm.Cond.fieldLink "JoinedTrees" (309 : Nat) "JoinedTrees$Op" "inserts" "Z") ∈ gb := gm_1 71 rfl rfl
theorem kw_72 : (Jvm.Cond.fieldLink "JoinedTrees$Store" (114 : Nat) "JoinedTrees$Op" "behind" "LJoinedTrees$Op;") ∈ gb := gm_1 72 rfl rfl
theorem kw_73 : (Jvm.Cond.fieldLink "JoinedTrees$Saver" (148 : Nat) "JoinedTrees$Op" "behind" "LJoinedTrees$Op;") ∈ gb := gm_1 73 rfl rfl
theorem kw_74 : (Jvm.Cond.fieldLink "JoinedTrees$Op" (26 : Nat) "JoinedTrees$Op" "preds" "[LJoinedTrees$Op;") ∈ gb := gm_1 74 rfl rfl
theorem kw_75 : (Jvm.Cond.fieldLink "JoinedTrees$View" (90 : Nat) "JoinedTrees$Op" "preds" "[LJoinedTrees$Op;") ∈ gb := gm_1 75 rfl rfl
theorem kw_76 : (Jvm.Cond.fieldLink "JoinedTrees$Saver" (171 : Nat) "JoinedTrees$Op" "preds" "[LJoinedTrees$Op;") ∈ gb := gm_1 76 rfl rfl
theorem kw_77 : (Jvm.Cond.fieldLink "JoinedTrees" (427 : Nat) "JoinedTrees$Op" "preds" "[LJoinedTrees$Op;") ∈ gb := gm_1 77 rfl rfl
theorem kw_78 : (Jvm.Cond.fieldLink "JoinedTrees$Store" (67 : Nat) "JoinedTrees$Op" "bytesAt" "I") ∈ gb := gm_1 78 rfl rfl
theorem kw_79 : (Jvm.Cond.fieldLink "JoinedTrees$JsonWriter" (80 : Nat) "JoinedTrees$Op" "bytesAt" "I") ∈ gb := gm_1 79 rfl rfl
theorem kw_80 : (Jvm.Cond.fieldLink "JoinedTrees$Saver" (141 : Nat) "JoinedTrees$Op" "bytesAt" "I") ∈ gb := gm_1 80 rfl rfl
theorem kw_81 : (Jvm.Cond.fieldLink "JoinedTrees" (290 : Nat) "JoinedTrees$Op" "bytesAt" "I") ∈ gb := gm_1 81 rfl rfl
theorem kw_82 : (Jvm.Cond.fieldLink "JoinedTrees$Store" (77 : Nat) "JoinedTrees$Op" "keyLength" "I") ∈ gb := gm_1 82 rfl rfl
theorem kw_83 : (Jvm.Cond.fieldLink "JoinedTrees$JsonWriter" (83 : Nat) "JoinedTrees$Op" "keyLength" "I") ∈ gb := gm_1 83 rfl rfl
theorem kw_84 : (Jvm.Cond.fieldLink "JoinedTrees$Saver" (138 : Nat) "JoinedTrees$Op" "keyLength" "I") ∈ gb := gm_1 84 rfl rfl
theorem kw_85 : (Jvm.Cond.fieldLink "JoinedTrees" (284 : Nat) "JoinedTrees$Op" "keyLength" "I") ∈ gb := gm_1 85 rfl rfl
theorem kw_86 : (Jvm.Cond.fieldLink "JoinedTrees$Store" (80 : Nat) "JoinedTrees$Op" "stringLength" "I") ∈ gb := gm_1 86 rfl rfl
theorem kw_87 : (Jvm.Cond.fieldLink "JoinedTrees$JsonWriter" (100 : Nat) "JoinedTrees$Op" "stringLength" "I") ∈ gb := gm_1 87 rfl rfl
theorem kw_88 : (Jvm.Cond.fieldLink "JoinedTrees$Saver" (168 : Nat) "JoinedTrees$Op" "stringLength" "I") ∈ gb := gm_1 88 rfl rfl
theorem kw_89 : (Jvm.Cond.fieldLink "JoinedTrees" (304 : Nat) "JoinedTrees$Op" "stringLength" "I") ∈ gb := gm_1 89 rfl rfl
theorem kw_90 : (Jvm.Cond.fieldLink "JoinedTrees$Spot" (13 : Nat) "JoinedTrees$Op" "spot" "LJoinedTrees$Spot;") ∈ gb := gm_1 90 rfl rfl
theorem kw_91 : (Jvm.Cond.fieldLink "JoinedTrees$JsonWriter" (54 : Nat) "JoinedTrees$Op" "spot" "LJoinedTrees$Spot;") ∈ gb := gm_1 91 rfl rfl
theorem kw_92 : (Jvm.Cond.fieldLink "JoinedTrees$Store" (117 : Nat) "JoinedTrees$Op" "spot" "LJoinedTrees$Spot;") ∈ gb := gm_1 92 rfl rfl
theorem kw_93 : (Jvm.Cond.fieldLink "JoinedTrees$Saver" (151 : Nat) "JoinedTrees$Op" "spot" "LJoinedTrees$Spot;") ∈ gb := gm_1 93 rfl rfl
theorem kw_94 : (Jvm.Cond.fieldLink "JoinedTrees$View" (101 : Nat) "JoinedTrees$Op" "spot" "LJoinedTrees$Spot;") ∈ gb := gm_1 94 rfl rfl
theorem kw_95 : (Jvm.Cond.fieldLink "JoinedTrees" (316 : Nat) "JoinedTrees$Op" "spot" "LJoinedTrees$Spot;") ∈ gb := gm_1 95 rfl rfl
theorem kw_96 : (Jvm.Cond.fieldLink "JoinedTrees$Spot" (26 : Nat) "JoinedTrees$Op" "below" "LJoinedTrees$Op;") ∈ gb := gm_1 96 rfl rfl
theorem kw_97 : (Jvm.Cond.fieldLink "JoinedTrees$View" (87 : Nat) "JoinedTrees$Op" "below" "LJoinedTrees$Op;") ∈ gb := gm_1 97 rfl rfl
theorem kw_98 : (Jvm.Cond.fieldLink "JoinedTrees$JsonWriter" (70 : Nat) "JoinedTrees$Op" "spots" "LJoinedTrees$Spot;") ∈ gb := gm_1 98 rfl rfl
theorem kw_99 : (Jvm.Cond.fieldLink "JoinedTrees$Store" (92 : Nat) "JoinedTrees$Op" "spots" "LJoinedTrees$Spot;") ∈ gb := gm_1 99 rfl rfl
theorem kw_100 : (Jvm.Cond.fieldLink "JoinedTrees$View" (112 : Nat) "JoinedTrees$Op" "spots" "LJoinedTrees$Spot;") ∈ gb := gm_1 100 rfl rfl
theorem kw_101 : (Jvm.Cond.fieldLink "JoinedTrees$View" (84 : Nat) "JoinedTrees$Op" "struck" "I") ∈ gb := gm_1 101 rfl rfl
theorem kw_102 : (Jvm.Cond.laysFinal "JoinedTrees$Op" "JoinedTrees$Op" "id" "I") ∈ gb := gm_1 102 rfl rfl
theorem kw_103 : (Jvm.Cond.soleField "JoinedTrees$Op" "id") ∈ gb := gm_1 103 rfl rfl
theorem kw_104 : (Jvm.Cond.laysFinal "JoinedTrees$Op" "JoinedTrees$Op" "object" "LJoinedTrees$Op;") ∈ gb := gm_1 104 rfl rfl
theorem kw_105 : (Jvm.Cond.soleField "JoinedTrees$Op" "object") ∈ gb := gm_1 105 rfl rfl
theorem kw_106 : (Jvm.Cond.laysFinal "JoinedTrees$Op" "JoinedTrees$Op" "sort" "I") ∈ gb := gm_1 106 rfl rfl
theorem kw_107 : (Jvm.Cond.soleField "JoinedTrees$Op" "sort") ∈ gb := gm_1 107 rfl rfl
theorem kw_108 : (Jvm.Cond.laysFinal "JoinedTrees$Op" "JoinedTrees$Op" "n" "J") ∈ gb := gm_1 108 rfl rfl
theorem kw_109 : (Jvm.Cond.soleField "JoinedTrees$Op" "n") ∈ gb := gm_1 109 rfl rfl
theorem kw_110 : (Jvm.Cond.lays "JoinedTrees$Op" "JoinedTrees$Op" "change" "I") ∈ gb := gm_1 110 rfl rfl
theorem kw_111 : (Jvm.Cond.soleField "JoinedTrees$Op" "change") ∈ gb := gm_1 111 rfl rfl
theorem kw_112 : (Jvm.Cond.lays "JoinedTrees$Op" "JoinedTrees$Op" "inserts" "Z") ∈ gb := gm_1 112 rfl rfl
theorem kw_113 : (Jvm.Cond.soleField "JoinedTrees$Op" "inserts") ∈ gb := gm_1 113 rfl rfl
theorem kw_114 : (Jvm.Cond.lays "JoinedTrees$Op" "JoinedTrees$Op" "behind" "LJoinedTrees$Op;") ∈ gb := gm_1 114 rfl rfl
theorem kw_115 : (Jvm.Cond.soleField "JoinedTrees$Op" "behind") ∈ gb := gm_1 115 rfl rfl
theorem kw_116 : (Jvm.Cond.lays "JoinedTrees$Op" "JoinedTrees$Op" "preds" "[LJoinedTrees$Op;") ∈ gb := gm_1 116 rfl rfl
theorem kw_117 : (Jvm.Cond.soleField "JoinedTrees$Op" "preds") ∈ gb := gm_1 117 rfl rfl
theorem kw_118 : (Jvm.Cond.lays "JoinedTrees$Op" "JoinedTrees$Op" "bytesAt" "I") ∈ gb := gm_1 118 rfl rfl
theorem kw_119 : (Jvm.Cond.soleField "JoinedTrees$Op" "bytesAt") ∈ gb := gm_1 119 rfl rfl
theorem kw_120 : (Jvm.Cond.lays "JoinedTrees$Op" "JoinedTrees$Op" "keyLength" "I") ∈ gb := gm_1 120 rfl rfl
theorem kw_121 : (Jvm.Cond.soleField "JoinedTrees$Op" "keyLength") ∈ gb := gm_1 121 rfl rfl
theorem kw_122 : (Jvm.Cond.lays "JoinedTrees$Op" "JoinedTrees$Op" "stringLength" "I") ∈ gb := gm_1 122 rfl rfl
theorem kw_123 : (Jvm.Cond.soleField "JoinedTrees$Op" "stringLength") ∈ gb := gm_1 123 rfl rfl
theorem kw_124 : (Jvm.Cond.lays "JoinedTrees$Op" "JoinedTrees$Op" "spot" "LJoinedTrees$Spot;") ∈ gb := gm_1 124 rfl rfl
theorem kw_125 : (Jvm.Cond.soleField "JoinedTrees$Op" "spot") ∈ gb := gm_1 125 rfl rfl
theorem kw_126 : (Jvm.Cond.lays "JoinedTrees$Op" "JoinedTrees$Op" "below" "LJoinedTrees$Op;") ∈ gb := gm_1 126 rfl rfl
theorem kw_127 : (Jvm.Cond.soleField "JoinedTrees$Op" "below") ∈ gb := gm_1 127 rfl rfl
theorem kw_128 : (Jvm.Cond.lays "JoinedTrees$Op" "JoinedTrees$Op" "spots" "LJoinedTrees$Spot;") ∈ gb := gm_1 128 rfl rfl
theorem kw_129 : (Jvm.Cond.soleField "JoinedTrees$Op" "spots") ∈ gb := gm_1 129 rfl rfl
theorem kw_130 : (Jvm.Cond.lays "JoinedTrees$Op" "JoinedTrees$Op" "struck" "I") ∈ gb := gm_1 130 rfl rfl
theorem kw_131 : (Jvm.Cond.soleField "JoinedTrees$Op" "struck") ∈ gb := gm_1 131 rfl rfl
theorem kw_132 : (Jvm.Cond.superclass "JoinedTrees$Op" "java/lang/Object") ∈ gb := gm_1 132 rfl rfl
theorem kw_134 : (Jvm.Cond.classLink "JoinedTrees$Store" (24 : Nat) "JoinedTrees$Row") ∈ gb := gm_1 134 rfl rfl
theorem kw_135 : (Jvm.Cond.instantiable "JoinedTrees$Row" (3 : Nat)) ∈ gb := gm_1 135 rfl rfl
theorem kw_136 : (Jvm.Cond.methodLink "JoinedTrees$Store" (26 : Nat) ({ cls := "JoinedTrees$Row", name := "<init>", desc := "(I)V" } : Jvm.MethodName)) ∈ gb := gm_1 136 rfl rfl
theorem kw_137 : (Jvm.Cond.instanceMethod ({ cls := "JoinedTrees$Row", name := "<init>", desc := "(I)V" } : Jvm.MethodName)) ∈ gb := gm_1 137 rfl rfl
theorem kw_138 : (Jvm.Cond.code ({ cls := "JoinedTrees$Row", name := "<init>", desc := "(I)V" } : Jvm.MethodName) prog_7_method_1_code (2 : Nat) (Option.none : Option Jvm.ClassFile.FieldType)) ∈ gb := gm_1 138 rfl rfl
theorem kw_139 : (Jvm.Cond.methodLink "JoinedTrees$Row" (1 : Nat) ({ cls := "java/lang/Object", name := "<init>", desc := "()V" } : Jvm.MethodName)) ∈ gb := gm_1 139 rfl rfl
theorem kw_140 : (Jvm.Cond.fieldLink "JoinedTrees$Row" (7 : Nat) "JoinedTrees$Row" "bytes" "[B") ∈ gb := gm_1 140 rfl rfl
theorem kw_141 : (Jvm.Cond.fieldLink "JoinedTrees" (374 : Nat) "JoinedTrees$Row" "bytes" "[B") ∈ gb := gm_1 141 rfl rfl
theorem kw_142 : (Jvm.Cond.fieldLink "JoinedTrees$Row" (13 : Nat) "JoinedTrees$Row" "length" "I") ∈ gb := gm_1 142 rfl rfl
theorem kw_143 : (Jvm.Cond.fieldLink "JoinedTrees" (80 : Nat) "JoinedTrees$Row" "length" "I") ∈ gb := gm_1 143 rfl rfl
theorem kw_144 : (Jvm.Cond.fieldLink "JoinedTrees$Store" (64 : Nat) "JoinedTrees$Row" "length" "I") ∈ gb := gm_1 144 rfl rfl
theorem kw_145 : (Jvm.Cond.fieldLink "JoinedTrees$Saver" (63 : Nat) "JoinedTrees$Row" "length" "I") ∈ gb := gm_1 145 rfl rfl
theorem kw_146 : (Jvm.Cond.fieldLink "JoinedTrees$JsonReader" (67 : Nat) "JoinedTrees$Row" "length" "I") ∈ gb := gm_1 146 rfl rfl
theorem kw_147 : (Jvm.Cond.fieldLink "JoinedTrees$JsonWriter" (73 : Nat) "JoinedTrees$Row" "length" "I") ∈ gb := gm_1 147 rfl rfl
theorem kw_148 : (Jvm.Cond.fieldLink "JoinedTrees$Row" (17 : Nat) "JoinedTrees$Row" "spilt" "Z") ∈ gb := gm_1 148 rfl rfl
theorem kw_149 : (Jvm.Cond.fieldLink "JoinedTrees$JsonWriter" (41 : Nat) "JoinedTrees$Row" "spilt" "Z") ∈ gb := gm_1 149 rfl rfl
theorem kw_150 : (Jvm.Cond.fieldLink "JoinedTrees" (345 : Nat) "JoinedTrees$Row" "spilt" "Z") ∈ gb := gm_1 150 rfl rfl
theorem kw_151 : (Jvm.Cond.laysFinal "JoinedTrees$Row" "JoinedTrees$Row" "bytes" "[B") ∈ gb := gm_1 151 rfl rfl
theorem kw_152 : (Jvm.Cond.soleField "JoinedTrees$Row" "bytes") ∈ gb := gm_1 152 rfl rfl
theorem kw_153 : (Jvm.Cond.lays "JoinedTrees$Row" "JoinedTrees$Row" "length" "I") ∈ gb := gm_1 153 rfl rfl
theorem kw_154 : (Jvm.Cond.soleField "JoinedTrees$Row" "length") ∈ gb := gm_1 154 rfl rfl
theorem kw_155 : (Jvm.Cond.lays "JoinedTrees$Row" "JoinedTrees$Row" "spilt" "Z") ∈ gb := gm_1 155 rfl rfl
theorem kw_156 : (Jvm.Cond.soleField "JoinedTrees$Row" "spilt") ∈ gb := gm_1 156 rfl rfl
theorem kw_157 : (Jvm.Cond.superclass "JoinedTrees$Row" "java/lang/Object") ∈ gb := gm_1 157 rfl rfl
theorem kw_158 : (Jvm.Cond.arrayClass Jvm.ClassFile.FieldType.byte) ∈ gb := gm_1 158 rfl rfl
theorem kw_159 : (Jvm.Cond.classLink "JoinedTrees$Store" (33 : Nat) "JoinedTrees$Change") ∈ gb := gm_1 159 rfl rfl
theorem kw_161 : (Jvm.Cond.fieldLink "JoinedTrees$Store" (14 : Nat) "JoinedTrees$Store" "root" "LJoinedTrees$Op;") ∈ gb := gm_1 161 rfl rfl
theorem kw_162 : (Jvm.Cond.fieldLink "JoinedTrees$View" (53 : Nat) "JoinedTrees$Store" "root" "LJoinedTrees$Op;") ∈ gb := gm_1 162 rfl rfl
theorem kw_163 : (Jvm.Cond.fieldLink "JoinedTrees" (328 : Nat) "JoinedTrees$Store" "root" "LJoinedTrees$Op;") ∈ gb := gm_1 163 rfl rfl
theorem kw_164 : (Jvm.Cond.fieldLink "JoinedTrees$Store" (20 : Nat) "JoinedTrees$Store" "byId" "[LJoinedTrees$Op;") ∈ gb := gm_1 164 rfl rfl
theorem kw_165 : (Jvm.Cond.fieldLink "JoinedTrees$View" (59 : Nat) "JoinedTrees$Store" "byId" "[LJoinedTrees$Op;") ∈ gb := gm_1 165 rfl rfl
theorem kw_166 : (Jvm.Cond.fieldLink "JoinedTrees$Saver" (115 : Nat) "JoinedTrees$Store" "byId" "[LJoinedTrees$Op;") ∈ gb := gm_1 166 rfl rfl
theorem kw_167 : (Jvm.Cond.fieldLink "JoinedTrees$Store" (29 : Nat) "JoinedTrees$Store" "kept" "LJoinedTrees$Row;") ∈ gb := gm_1 167 rfl rfl
theorem kw_168 : (Jvm.Cond.fieldLink "JoinedTrees$Saver" (100 : Nat) "JoinedTrees$Store" "kept" "LJoinedTrees$Row;") ∈ gb := gm_1 168 rfl rfl
theorem kw_169 : (Jvm.Cond.fieldLink "JoinedTrees$JsonWriter" (127 : Nat) "JoinedTrees$Store" "kept" "LJoinedTrees$Row;") ∈ gb := gm_1 169 rfl rfl
theorem kw_170 : (Jvm.Cond.fieldLink "JoinedTrees" (287 : Nat) "JoinedTrees$Store" "kept" "LJoinedTrees$Row;") ∈ gb := gm_1 170 rfl rfl
theorem kw_171 : (Jvm.Cond.fieldLink "JoinedTrees$Store" (35 : Nat) "JoinedTrees$Store" "changes" "[LJoinedTrees$Change;") ∈ gb := gm_1 171 rfl rfl
theorem kw_172 : (Jvm.Cond.fieldLink "JoinedTrees$Saver" (47 : Nat) "JoinedTrees$Store" "changes" "[LJoinedTrees$Change;") ∈ gb := gm_1 172 rfl rfl
theorem kw_173 : (Jvm.Cond.fieldLink "JoinedTrees" (263 : Nat) "JoinedTrees$Store" "changes" "[LJoinedTrees$Change;") ∈ gb := gm_1 173 rfl rfl
theorem kw_174 : (Jvm.Cond.fieldLink "JoinedTrees$Saver" (42 : Nat) "JoinedTrees$Store" "changesMade" "I") ∈ gb := gm_1 174 rfl rfl
theorem kw_175 : (Jvm.Cond.fieldLink "JoinedTrees$Store" (126 : Nat) "JoinedTrees$Store" "changesMade" "I") ∈ gb := gm_1 175 rfl rfl
theorem kw_176 : (Jvm.Cond.fieldLink "JoinedTrees" (226 : Nat) "JoinedTrees$Store" "changesMade" "I") ∈ gb := gm_1 176 rfl rfl
theorem kw_177 : (Jvm.Cond.fieldLink "JoinedTrees$Store" (51 : Nat) "JoinedTrees$Store" "opsMade" "I") ∈ gb := gm_1 177 rfl rfl
theorem kw_178 : (Jvm.Cond.fieldLink "JoinedTrees" (395 : Nat) "JoinedTrees$Store" "opsMade" "I") ∈ gb := gm_1 178 rfl rfl
theorem kw_179 : (Jvm.Cond.laysFinal "JoinedTrees$Store" "JoinedTrees$Store" "root" "LJoinedTrees$Op;") ∈ gb := gm_1 179 rfl rfl
theorem kw_180 : (Jvm.Cond.soleField "JoinedTrees$Store" "root") ∈ gb := gm_1 180 rfl rfl
theorem kw_181 : (Jvm.Cond.laysFinal "JoinedTrees$Store" "JoinedTrees$Store" "byId" "[LJoinedTrees$Op;") ∈ gb := gm_1 181 rfl rfl
theorem kw_182 : (Jvm.Cond.soleField "JoinedTrees$Store" "byId") ∈ gb := gm_1 182 rfl rfl
theorem kw_183 : (Jvm.Cond.laysFinal "JoinedTrees$Store" "JoinedTrees$Store" "kept" "LJoinedTrees$Row;") ∈ gb := gm_1 183 rfl rfl
theorem kw_184 : (Jvm.Cond.soleField "JoinedTrees$Store" "kept") ∈ gb := gm_1 184 rfl rfl
theorem kw_185 : (Jvm.Cond.laysFinal "JoinedTrees$Store" "JoinedTrees$Store" "changes" "[LJoinedTrees$Change;") ∈ gb := gm_1 185 rfl rfl
theorem kw_186 : (Jvm.Cond.soleField "JoinedTrees$Store" "changes") ∈ gb := gm_1 186 rfl rfl
theorem kw_187 : (Jvm.Cond.lays "JoinedTrees$Store" "JoinedTrees$Store" "changesMade" "I") ∈ gb := gm_1 187 rfl rfl
theorem kw_188 : (Jvm.Cond.soleField "JoinedTrees$Store" "changesMade") ∈ gb := gm_1 188 rfl rfl
theorem kw_189 : (Jvm.Cond.lays "JoinedTrees$Store" "JoinedTrees$Store" "opsMade" "I") ∈ gb := gm_1 189 rfl rfl
theorem kw_190 : (Jvm.Cond.soleField "JoinedTrees$Store" "opsMade") ∈ gb := gm_1 190 rfl rfl
theorem kw_191 : (Jvm.Cond.superclass "JoinedTrees$Store" "java/lang/Object") ∈ gb := gm_1 191 rfl rfl
theorem kw_192 : (Jvm.Cond.classLink "JoinedTrees" (16 : Nat) "JoinedTrees$Replica") ∈ gb := gm_1 192 rfl rfl
theorem kw_194 : (Jvm.Cond.instantiable "JoinedTrees$Replica" (10 : Nat)) ∈ gb := gm_1 194 rfl rfl
theorem kw_195 : (Jvm.Cond.methodLink "JoinedTrees" (22 : Nat) ({ cls := "JoinedTrees$Replica", name := "<init>", desc := "(I)V" } : Jvm.MethodName)) ∈ gb := gm_1 195 rfl rfl
theorem kw_196 : (Jvm.Cond.instanceMethod ({ cls := "JoinedTrees$Replica", name := "<init>", desc := "(I)V" } : Jvm.MethodName)) ∈ gb := gm_1 196 rfl rfl
theorem kw_197 : (Jvm.Cond.code ({ cls := "JoinedTrees$Replica", name := "<init>", desc := "(I)V" } : Jvm.MethodName) prog_6_method_1_code (2 : Nat) (Option.none : Option Jvm.ClassFile.FieldType)) ∈ gb := gm_1 197 rfl rfl
theorem kw_198 : (Jvm.Cond.methodLink "JoinedTrees$Replica" (3 : Nat) ({ cls := "java/lang/Object", name := "<init>", desc := "()V" } : Jvm.MethodName)) ∈ gb := gm_1 198 rfl rfl
theorem kw_199 : (Jvm.Cond.classLink "JoinedTrees$Replica" (19 : Nat) "JoinedTrees$Change") ∈ gb := gm_1 199 rfl rfl
theorem kw_200 : (Jvm.Cond.fieldLink "JoinedTrees$Change" (7 : Nat) "JoinedTrees$Replica" "actor" "I") ∈ gb := gm_1 200 rfl rfl
theorem kw_201 : (Jvm.Cond.fieldLink "JoinedTrees$Replica" (25 : Nat) "JoinedTrees$Replica" "actor" "I") ∈ gb := gm_1 201 rfl rfl
theorem kw_202 : (Jvm.Cond.fieldLink "JoinedTrees$View" (43 : Nat) "JoinedTrees$Replica" "actor" "I") ∈ gb := gm_1 202 rfl rfl
theorem kw_203 : (Jvm.Cond.fieldLink "JoinedTrees$Store" (54 : Nat) "JoinedTrees$Replica" "actor" "I") ∈ gb := gm_1 203 rfl rfl
theorem kw_204 : (Jvm.Cond.fieldLink "JoinedTrees" (236 : Nat) "JoinedTrees$Replica" "actor" "I") ∈ gb := gm_1 204 rfl rfl
theorem kw_205 : (Jvm.Cond.fieldLink "JoinedTrees$Replica" (9 : Nat) "JoinedTrees$Replica" "has" "[I") ∈ gb := gm_1 205 rfl rfl
theorem kw_206 : (Jvm.Cond.fieldLink "JoinedTrees$Change" (16 : Nat) "JoinedTrees$Replica" "has" "[I") ∈ gb := gm_1 206 rfl rfl
theorem kw_207 : (Jvm.Cond.fieldLink "JoinedTrees$View" (31 : Nat) "JoinedTrees$Replica" "has" "[I") ∈ gb := gm_1 207 rfl rfl
theorem kw_208 : (Jvm.Cond.fieldLink "JoinedTrees$Store" (57 : Nat) "JoinedTrees$Replica" "has" "[I") ∈ gb := gm_1 208 rfl rfl
theorem kw_209 : (Jvm.Cond.fieldLink "JoinedTrees" (384 : Nat) "JoinedTrees$Replica" "has" "[I") ∈ gb := gm_1 209 rfl rfl
theorem kw_210 : (Jvm.Cond.fieldLink "JoinedTrees$Replica" (15 : Nat) "JoinedTrees$Replica" "waits" "[Z") ∈ gb := gm_1 210 rfl rfl
theorem kw_211 : (Jvm.Cond.fieldLink "JoinedTrees$Store" (155 : Nat) "JoinedTrees$Replica" "waits" "[Z") ∈ gb := gm_1 211 rfl rfl
theorem kw_212 : (Jvm.Cond.fieldLink "JoinedTrees" (267 : Nat) "JoinedTrees$Replica" "waits" "[Z") ∈ gb := gm_1 212 rfl rfl
theorem kw_213 : (Jvm.Cond.fieldLink "JoinedTrees$Replica" (21 : Nat) "JoinedTrees$Replica" "heads" "[LJoinedTrees$Change;") ∈ gb := gm_1 213 rfl rfl
theorem kw_214 : (Jvm.Cond.fieldLink "JoinedTrees$View" (25 : Nat) "JoinedTrees$Replica" "looked" "LJoinedTrees$Change;") ∈ gb := gm_1 214 rfl rfl
theorem kw_215 : (Jvm.Cond.fieldLink "JoinedTrees$Replica" (53 : Nat) "JoinedTrees$Replica" "looked" "LJoinedTrees$Change;") ∈ gb := gm_1 215 rfl rfl
theorem kw_216 : (Jvm.Cond.fieldLink "JoinedTrees" (271 : Nat) "JoinedTrees$Replica" "looked" "LJoinedTrees$Change;") ∈ gb := gm_1 216 rfl rfl
theorem kw_217 : (Jvm.Cond.fieldLink "JoinedTrees$Saver" (32 : Nat) "JoinedTrees$Replica" "changes" "I") ∈ gb := gm_1 217 rfl rfl
theorem kw_218 : (Jvm.Cond.fieldLink "JoinedTrees$Replica" (46 : Nat) "JoinedTrees$Replica" "changes" "I") ∈ gb := gm_1 218 rfl rfl
theorem kw_219 : (Jvm.Cond.fieldLink "JoinedTrees" (387 : Nat) "JoinedTrees$Replica" "changes" "I") ∈ gb := gm_1 219 rfl rfl
theorem kw_220 : (Jvm.Cond.fieldLink "JoinedTrees$Replica" (40 : Nat) "JoinedTrees$Replica" "waiting" "I") ∈ gb := gm_1 220 rfl rfl
theorem kw_221 : (Jvm.Cond.fieldLink "JoinedTrees$Store" (152 : Nat) "JoinedTrees$Replica" "waiting" "I") ∈ gb := gm_1 221 rfl rfl
theorem kw_222 : (Jvm.Cond.fieldLink "JoinedTrees" (389 : Nat) "JoinedTrees$Replica" "waiting" "I") ∈ gb := gm_1 222 rfl rfl
theorem kw_223 : (Jvm.Cond.fieldLink "JoinedTrees$Store" (45 : Nat) "JoinedTrees$Replica" "ops" "I") ∈ gb := gm_1 223 rfl rfl
theorem kw_224 : (Jvm.Cond.fieldLink "JoinedTrees" (242 : Nat) "JoinedTrees$Replica" "ops" "I") ∈ gb := gm_1 224 rfl rfl
theorem kw_225 : (Jvm.Cond.fieldLink "JoinedTrees$Change" (26 : Nat) "JoinedTrees$Replica" "top" "I") ∈ gb := gm_1 225 rfl rfl
theorem kw_226 : (Jvm.Cond.fieldLink "JoinedTrees$Store" (39 : Nat) "JoinedTrees$Replica" "top" "I") ∈ gb := gm_1 226 rfl rfl
theorem kw_227 : (Jvm.Cond.fieldLink "JoinedTrees" (233 : Nat) "JoinedTrees$Replica" "top" "I") ∈ gb := gm_1 227 rfl rfl
theorem kw_228 : (Jvm.Cond.fieldLink "JoinedTrees$Change" (29 : Nat) "JoinedTrees$Replica" "open" "I") ∈ gb := gm_1 228 rfl rfl
theorem kw_229 : (Jvm.Cond.fieldLink "JoinedTrees$Store" (48 : Nat) "JoinedTrees$Replica" "open" "I") ∈ gb := gm_1 229 rfl rfl
theorem kw_230 : (Jvm.Cond.fieldLink "JoinedTrees" (220 : Nat) "JoinedTrees$Replica" "open" "I") ∈ gb := gm_1 230 rfl rfl
theorem kw_231 : (Jvm.Cond.laysFinal "JoinedTrees$Replica" "JoinedTrees$Replica" "actor" "I") ∈ gb := gm_1 231 rfl rfl
theorem kw_232 : (Jvm.Cond.soleField "JoinedTrees$Replica" "actor") ∈ gb := gm_1 232 rfl rfl
theorem kw_233 : (Jvm.Cond.laysFinal "JoinedTrees$Replica" "JoinedTrees$Replica" "has" "[I") ∈ gb := gm_1 233 rfl rfl
theorem kw_234 : (Jvm.Cond.soleField "JoinedTrees$Replica" "has") ∈ gb := gm_1 234 rfl rfl
theorem kw_235 : (Jvm.Cond.laysFinal "JoinedTrees$Replica" "JoinedTrees$Replica" "waits" "[Z") ∈ gb := gm_1 235 rfl rfl
theorem kw_236 : (Jvm.Cond.soleField "JoinedTrees$Replica" "waits") ∈ gb := gm_1 236 rfl rfl
theorem kw_237 : (Jvm.Cond.laysFinal "JoinedTrees$Replica" "JoinedTrees$Replica" "heads" "[LJoinedTrees$Change;") ∈ gb := gm_1 237 rfl rfl
theorem kw_238 : (Jvm.Cond.soleField "JoinedTrees$Replica" "heads") ∈ gb := gm_1 238 rfl rfl
theorem kw_239 : (Jvm.Cond.lays "JoinedTrees$Replica" "JoinedTrees$Replica" "looked" "LJoinedTrees$Change;") ∈ gb := gm_1 239 rfl rfl
theorem kw_240 : (Jvm.Cond.soleField "JoinedTrees$Replica" "looked") ∈ gb := gm_2 0 rfl rfl
theorem kw_241 : (Jvm.Cond.lays "JoinedTrees$Replica" "JoinedTrees$Replica" "changes" "I") ∈ gb := gm_2 1 rfl rfl
theorem kw_242 : (Jvm.Cond.soleField "JoinedTrees$Replica" "changes") ∈ gb := gm_2 2 rfl rfl
theorem kw_243 : (Jvm.Cond.lays "JoinedTrees$Replica" "JoinedTrees$Replica" "waiting" "I") ∈ gb := gm_2 3 rfl rfl
theorem kw_244 : (Jvm.Cond.soleField "JoinedTrees$Replica" "waiting") ∈ gb := gm_2 4 rfl rfl
theorem kw_245 : (Jvm.Cond.lays "JoinedTrees$Replica" "JoinedTrees$Replica" "ops" "I") ∈ gb := gm_2 5 rfl rfl
theorem kw_246 : (Jvm.Cond.soleField "JoinedTrees$Replica" "ops") ∈ gb := gm_2 6 rfl rfl
theorem kw_247 : (Jvm.Cond.lays "JoinedTrees$Replica" "JoinedTrees$Replica" "top" "I") ∈ gb := gm_2 7 rfl rfl
theorem kw_248 : (Jvm.Cond.soleField "JoinedTrees$Replica" "top") ∈ gb := gm_2 8 rfl rfl
theorem kw_249 : (Jvm.Cond.lays "JoinedTrees$Replica" "JoinedTrees$Replica" "open" "I") ∈ gb := gm_2 9 rfl rfl
theorem kw_250 : (Jvm.Cond.soleField "JoinedTrees$Replica" "open") ∈ gb := gm_2 10 rfl rfl
theorem kw_251 : (Jvm.Cond.superclass "JoinedTrees$Replica" "java/lang/Object") ∈ gb := gm_2 11 rfl rfl
theorem kw_252 : (Jvm.Cond.arrayClass Jvm.ClassFile.FieldType.int) ∈ gb := gm_2 12 rfl rfl
theorem kw_253 : (Jvm.Cond.arrayClass Jvm.ClassFile.FieldType.boolean) ∈ gb := gm_2 13 rfl rfl
theorem kw_254 : (Jvm.Cond.classLink "JoinedTrees" (25 : Nat) "JoinedTrees$View") ∈ gb := gm_2 14 rfl rfl
theorem kw_255 : (Jvm.Cond.instantiable "JoinedTrees$View" (5 : Nat)) ∈ gb := gm_2 15 rfl rfl
theorem kw_256 : (Jvm.Cond.methodLink "JoinedTrees" (27 : Nat) ({ cls := "JoinedTrees$View", name := "<init>", desc := "(LJoinedTrees$Store;)V" } : Jvm.MethodName)) ∈ gb := gm_2 16 rfl rfl
theorem kw_257 : (Jvm.Cond.instanceMethod ({ cls := "JoinedTrees$View", name := "<init>", desc := "(LJoinedTrees$Store;)V" } : Jvm.MethodName)) ∈ gb := gm_2 17 rfl rfl
theorem kw_258 : (Jvm.Cond.code ({ cls := "JoinedTrees$View", name := "<init>", desc := "(LJoinedTrees$Store;)V" } : Jvm.MethodName) prog_12_method_1_code (2 : Nat) (Option.none : Option Jvm.ClassFile.FieldType)) ∈ gb := gm_2 18 rfl rfl
theorem kw_259 : (Jvm.Cond.methodLink "JoinedTrees$View" (3 : Nat) ({ cls := "java/lang/Object", name := "<init>", desc := "()V" } : Jvm.MethodName)) ∈ gb := gm_2 19 rfl rfl
theorem kw_260 : (Jvm.Cond.classLink "JoinedTrees$View" (15 : Nat) "JoinedTrees$Op") ∈ gb := gm_2 20 rfl rfl
theorem kw_261 : (Jvm.Cond.fieldLink "JoinedTrees$View" (21 : Nat) "JoinedTrees$View" "store" "LJoinedTrees$Store;") ∈ gb := gm_2 21 rfl rfl
theorem kw_262 : (Jvm.Cond.fieldLink "JoinedTrees$JsonWriter" (123 : Nat) "JoinedTrees$View" "store" "LJoinedTrees$Store;") ∈ gb := gm_2 22 rfl rfl
theorem kw_263 : (Jvm.Cond.fieldLink "JoinedTrees$View" (9 : Nat) "JoinedTrees$View" "clock" "[I") ∈ gb := gm_2 23 rfl rfl
theorem kw_264 : (Jvm.Cond.fieldLink "JoinedTrees$View" (17 : Nat) "JoinedTrees$View" "found" "[LJoinedTrees$Op;") ∈ gb := gm_2 24 rfl rfl
theorem kw_265 : (Jvm.Cond.fieldLink "JoinedTrees" (296 : Nat) "JoinedTrees$View" "found" "[LJoinedTrees$Op;") ∈ gb := gm_2 25 rfl rfl
theorem kw_266 : (Jvm.Cond.fieldLink "JoinedTrees$View" (66 : Nat) "JoinedTrees$View" "size" "I") ∈ gb := gm_2 26 rfl rfl
theorem kw_267 : (Jvm.Cond.fieldLink "JoinedTrees" (202 : Nat) "JoinedTrees$View" "size" "I") ∈ gb := gm_2 27 rfl rfl
theorem kw_268 : (Jvm.Cond.fieldLink "JoinedTrees$View" (69 : Nat) "JoinedTrees$View" "round" "I") ∈ gb := gm_2 28 rfl rfl
theorem kw_269 : (Jvm.Cond.laysFinal "JoinedTrees$View" "JoinedTrees$View" "store" "LJoinedTrees$Store;") ∈ gb := gm_2 29 rfl rfl
theorem kw_270 : (Jvm.Cond.soleField "JoinedTrees$View" "store") ∈ gb := gm_2 30 rfl rfl
theorem kw_271 : (Jvm.Cond.laysFinal "JoinedTrees$View" "JoinedTrees$View" "clock" "[I") ∈ gb := gm_2 31 rfl rfl
theorem kw_272 : (Jvm.Cond.soleField "JoinedTrees$View" "clock") ∈ gb := gm_2 32 rfl rfl
theorem kw_273 : (Jvm.Cond.laysFinal "JoinedTrees$View" "JoinedTrees$View" "found" "[LJoinedTrees$Op;") ∈ gb := gm_2 33 rfl rfl
theorem kw_274 : (Jvm.Cond.soleField "JoinedTrees$View" "found") ∈ gb := gm_2 34 rfl rfl
theorem kw_275 : (Jvm.Cond.lays "JoinedTrees$View" "JoinedTrees$View" "size" "I") ∈ gb := gm_2 35 rfl rfl
theorem kw_276 : (Jvm.Cond.soleField "JoinedTrees$View" "size") ∈ gb := gm_2 36 rfl rfl
theorem kw_277 : (Jvm.Cond.lays "JoinedTrees$View" "JoinedTrees$View" "round" "I") ∈ gb := gm_2 37 rfl rfl
theorem kw_278 : (Jvm.Cond.soleField "JoinedTrees$View" "round") ∈ gb := gm_2 38 rfl rfl
theorem kw_279 : (Jvm.Cond.superclass "JoinedTrees$View" "java/lang/Object") ∈ gb := gm_2 39 rfl rfl
theorem kw_280 : (Jvm.Cond.classLink "JoinedTrees" (34 : Nat) "JoinedTrees$JsonReader") ∈ gb := gm_2 40 rfl rfl
theorem kw_281 : (Jvm.Cond.instantiable "JoinedTrees$JsonReader" (10 : Nat)) ∈ gb := gm_2 41 rfl rfl
theorem kw_282 : (Jvm.Cond.methodLink "JoinedTrees" (36 : Nat) ({ cls := "JoinedTrees$JsonReader", name := "<init>", desc := "()V" } : Jvm.MethodName)) ∈ gb := gm_2 42 rfl rfl
theorem kw_283 : (Jvm.Cond.instanceMethod ({ cls := "JoinedTrees$JsonReader", name := "<init>", desc := "()V" } : Jvm.MethodName)) ∈ gb := gm_2 43 rfl rfl
theorem kw_284 : (Jvm.Cond.code ({ cls := "JoinedTrees$JsonReader", name := "<init>", desc := "()V" } : Jvm.MethodName) prog_3_method_1_code (2 : Nat) (Option.none : Option Jvm.ClassFile.FieldType)) ∈ gb := gm_2 44 rfl rfl
theorem kw_285 : (Jvm.Cond.methodLink "JoinedTrees$JsonReader" (3 : Nat) ({ cls := "java/lang/Object", name := "<init>", desc := "()V" } : Jvm.MethodName)) ∈ gb := gm_2 45 rfl rfl
theorem kw_286 : (Jvm.Cond.classLink "JoinedTrees$JsonReader" (9 : Nat) "JoinedTrees$Value") ∈ gb := gm_2 46 rfl rfl
theorem kw_288 : (Jvm.Cond.classLink "JoinedTrees$JsonReader" (17 : Nat) "JoinedTrees$Row") ∈ gb := gm_2 48 rfl rfl
theorem kw_289 : (Jvm.Cond.methodLink "JoinedTrees$JsonReader" (19 : Nat) ({ cls := "JoinedTrees$Row", name := "<init>", desc := "(I)V" } : Jvm.MethodName)) ∈ gb := gm_2 49 rfl rfl
theorem kw_290 : (Jvm.Cond.instantiable "JoinedTrees$Value" (10 : Nat)) ∈ gb := gm_2 50 rfl rfl
theorem kw_292 : (Jvm.Cond.instanceMethod ({ cls := "JoinedTrees$Value", name := "<init>", desc := "()V" } : Jvm.MethodName)) ∈ gb := gm_2 52 rfl rfl
theorem kw_293 : (Jvm.Cond.code ({ cls := "JoinedTrees$Value", name := "<init>", desc := "()V" } : Jvm.MethodName) prog_11_method_1_code (1 : Nat) (Option.none : Option Jvm.ClassFile.FieldType)) ∈ gb := gm_2 53 rfl rfl
theorem kw_294 : (Jvm.Cond.methodLink "JoinedTrees$Value" (1 : Nat) ({ cls := "java/lang/Object", name := "<init>", desc := "()V" } : Jvm.MethodName)) ∈ gb := gm_2 54 rfl rfl
theorem kw_295 : (Jvm.Cond.fieldLink "JoinedTrees$JsonReader" (77 : Nat) "JoinedTrees$Value" "sort" "I") ∈ gb := gm_2 55 rfl rfl
theorem kw_296 : (Jvm.Cond.fieldLink "JoinedTrees" (453 : Nat) "JoinedTrees$Value" "sort" "I") ∈ gb := gm_2 56 rfl rfl
theorem kw_297 : (Jvm.Cond.fieldLink "JoinedTrees$Value" (20 : Nat) "JoinedTrees$Value" "n" "J") ∈ gb := gm_2 57 rfl rfl
theorem kw_298 : (Jvm.Cond.fieldLink "JoinedTrees$JsonReader" (155 : Nat) "JoinedTrees$Value" "n" "J") ∈ gb := gm_2 58 rfl rfl
theorem kw_299 : (Jvm.Cond.fieldLink "JoinedTrees" (454 : Nat) "JoinedTrees$Value" "n" "J") ∈ gb := gm_2 59 rfl rfl
theorem kw_300 : (Jvm.Cond.fieldLink "JoinedTrees$Value" (7 : Nat) "JoinedTrees$Value" "around" "LJoinedTrees$Value;") ∈ gb := gm_2 60 rfl rfl
theorem kw_301 : (Jvm.Cond.fieldLink "JoinedTrees$JsonReader" (80 : Nat) "JoinedTrees$Value" "around" "LJoinedTrees$Value;") ∈ gb := gm_2 61 rfl rfl
theorem kw_302 : (Jvm.Cond.fieldLink "JoinedTrees" (447 : Nat) "JoinedTrees$Value" "around" "LJoinedTrees$Value;") ∈ gb := gm_2 62 rfl rfl
theorem kw_303 : (Jvm.Cond.fieldLink "JoinedTrees$Value" (13 : Nat) "JoinedTrees$Value" "keyAt" "I") ∈ gb := gm_2 63 rfl rfl
theorem kw_304 : (Jvm.Cond.fieldLink "JoinedTrees$JsonReader" (95 : Nat) "JoinedTrees$Value" "keyAt" "I") ∈ gb := gm_2 64 rfl rfl
theorem kw_305 : (Jvm.Cond.fieldLink "JoinedTrees" (461 : Nat) "JoinedTrees$Value" "keyAt" "I") ∈ gb := gm_2 65 rfl rfl
theorem kw_306 : (Jvm.Cond.fieldLink "JoinedTrees$Value" (17 : Nat) "JoinedTrees$Value" "keyLength" "I") ∈ gb := gm_2 66 rfl rfl
theorem kw_307 : (Jvm.Cond.fieldLink "JoinedTrees$JsonReader" (96 : Nat) "JoinedTrees$Value" "keyLength" "I") ∈ gb := gm_2 67 rfl rfl
theorem kw_308 : (Jvm.Cond.fieldLink "JoinedTrees" (464 : Nat) "JoinedTrees$Value" "keyLength" "I") ∈ gb := gm_2 68 rfl rfl
theorem kw_309 : (Jvm.Cond.fieldLink "JoinedTrees$Value" (24 : Nat) "JoinedTrees$Value" "bytesAt" "I") ∈ gb := gm_2 69 rfl rfl
theorem kw_310 : (Jvm.Cond.fieldLink "JoinedTrees$JsonReader" (126 : Nat) "JoinedTrees$Value" "bytesAt" "I") ∈ gb := gm_2 70 rfl rfl
theorem kw_311 : (Jvm.Cond.fieldLink "JoinedTrees" (468 : Nat) "JoinedTrees$Value" "bytesAt" "I") ∈ gb := gm_2 71 rfl rfl
theorem kw_312 : (Jvm.Cond.fieldLink "JoinedTrees$Value" (27 : Nat) "JoinedTrees$Value" "length" "I") ∈ gb := gm_2 72 rfl rfl
theorem kw_313 : (Jvm.Cond.fieldLink "JoinedTrees$JsonReader" (129 : Nat) "JoinedTrees$Value" "length" "I") ∈ gb := gm_2 73 rfl rfl
theorem kw_314 : (Jvm.Cond.fieldLink "JoinedTrees" (469 : Nat) "JoinedTrees$Value" "length" "I") ∈ gb := gm_2 74 rfl rfl
theorem kw_315 : (Jvm.Cond.fieldLink "JoinedTrees$Value" (30 : Nat) "JoinedTrees$Value" "filled" "Z") ∈ gb := gm_2 75 rfl rfl
theorem kw_316 : (Jvm.Cond.fieldLink "JoinedTrees$JsonReader" (83 : Nat) "JoinedTrees$Value" "filled" "Z") ∈ gb := gm_2 76 rfl rfl
theorem kw_317 : (Jvm.Cond.fieldLink "JoinedTrees$Value" (34 : Nat) "JoinedTrees$Value" "op" "LJoinedTrees$Op;") ∈ gb := gm_2 77 rfl rfl
theorem kw_318 : (Jvm.Cond.fieldLink "JoinedTrees" (458 : Nat) "JoinedTrees$Value" "op" "LJoinedTrees$Op;") ∈ gb := gm_2 78 rfl rfl
theorem kw_319 : (Jvm.Cond.fieldLink "JoinedTrees$Value" (38 : Nat) "JoinedTrees$Value" "last" "LJoinedTrees$Op;") ∈ gb := gm_2 79 rfl rfl
theorem kw_320 : (Jvm.Cond.fieldLink "JoinedTrees" (465 : Nat) "JoinedTrees$Value" "last" "LJoinedTrees$Op;") ∈ gb := gm_2 80 rfl rfl
theorem kw_321 : (Jvm.Cond.lays "JoinedTrees$Value" "JoinedTrees$Value" "sort" "I") ∈ gb := gm_2 81 rfl rfl
theorem kw_322 : (Jvm.Cond.soleField "JoinedTrees$Value" "sort") ∈ gb := gm_2 82 rfl rfl
theorem kw_323 : (Jvm.Cond.lays "JoinedTrees$Value" "JoinedTrees$Value" "n" "J") ∈ gb := gm_2 83 rfl rfl
theorem kw_324 : (Jvm.Cond.soleField "JoinedTrees$Value" "n") ∈ gb := gm_2 84 rfl rfl
theorem kw_325 : (Jvm.Cond.lays "JoinedTrees$Value" "JoinedTrees$Value" "around" "LJoinedTrees$Value;") ∈ gb := gm_2 85 rfl rfl
theorem kw_326 : (Jvm.Cond.soleField "JoinedTrees$Value" "around") ∈ gb := gm_2 86 rfl rfl
theorem kw_327 : (Jvm.Cond.lays "JoinedTrees$Value" "JoinedTrees$Value" "keyAt" "I") ∈ gb := gm_2 87 rfl rfl
theorem kw_328 : (Jvm.Cond.soleField "JoinedTrees$Value" "keyAt") ∈ gb := gm_2 88 rfl rfl
theorem kw_329 : (Jvm.Cond.lays "JoinedTrees$Value" "JoinedTrees$Value" "keyLength" "I") ∈ gb := gm_2 89 rfl rfl
theorem kw_330 : (Jvm.Cond.soleField "JoinedTrees$Value" "keyLength") ∈ gb := gm_2 90 rfl rfl
theorem kw_331 : (Jvm.Cond.lays "JoinedTrees$Value" "JoinedTrees$Value" "bytesAt" "I") ∈ gb := gm_2 91 rfl rfl
theorem kw_332 : (Jvm.Cond.soleField "JoinedTrees$Value" "bytesAt") ∈ gb := gm_2 92 rfl rfl
theorem kw_333 : (Jvm.Cond.lays "JoinedTrees$Value" "JoinedTrees$Value" "length" "I") ∈ gb := gm_2 93 rfl rfl
theorem kw_334 : (Jvm.Cond.soleField "JoinedTrees$Value" "length") ∈ gb := gm_2 94 rfl rfl
theorem kw_335 : (Jvm.Cond.lays "JoinedTrees$Value" "JoinedTrees$Value" "filled" "Z") ∈ gb := gm_2 95 rfl rfl
theorem kw_336 : (Jvm.Cond.soleField "JoinedTrees$Value" "filled") ∈ gb := gm_2 96 rfl rfl
theorem kw_337 : (Jvm.Cond.lays "JoinedTrees$Value" "JoinedTrees$Value" "op" "LJoinedTrees$Op;") ∈ gb := gm_2 97 rfl rfl
theorem kw_338 : (Jvm.Cond.soleField "JoinedTrees$Value" "op") ∈ gb := gm_2 98 rfl rfl
theorem kw_339 : (Jvm.Cond.lays "JoinedTrees$Value" "JoinedTrees$Value" "last" "LJoinedTrees$Op;") ∈ gb := gm_2 99 rfl rfl
theorem kw_340 : (Jvm.Cond.soleField "JoinedTrees$Value" "last") ∈ gb := gm_2 100 rfl rfl
theorem kw_341 : (Jvm.Cond.superclass "JoinedTrees$Value" "java/lang/Object") ∈ gb := gm_2 101 rfl rfl
theorem kw_342 : (Jvm.Cond.fieldLink "JoinedTrees$JsonReader" (11 : Nat) "JoinedTrees$JsonReader" "values" "[LJoinedTrees$Value;") ∈ gb := gm_2 102 rfl rfl
theorem kw_343 : (Jvm.Cond.fieldLink "JoinedTrees" (443 : Nat) "JoinedTrees$JsonReader" "values" "[LJoinedTrees$Value;") ∈ gb := gm_2 103 rfl rfl
theorem kw_344 : (Jvm.Cond.fieldLink "JoinedTrees$JsonReader" (22 : Nat) "JoinedTrees$JsonReader" "decoded" "LJoinedTrees$Row;") ∈ gb := gm_2 104 rfl rfl
theorem kw_345 : (Jvm.Cond.fieldLink "JoinedTrees" (213 : Nat) "JoinedTrees$JsonReader" "decoded" "LJoinedTrees$Row;") ∈ gb := gm_2 105 rfl rfl
theorem kw_346 : (Jvm.Cond.fieldLink "JoinedTrees$JsonReader" (27 : Nat) "JoinedTrees$JsonReader" "in" "LJoinedTrees$Row;") ∈ gb := gm_2 106 rfl rfl
theorem kw_347 : (Jvm.Cond.fieldLink "JoinedTrees$JsonReader" (30 : Nat) "JoinedTrees$JsonReader" "size" "I") ∈ gb := gm_2 107 rfl rfl
theorem kw_348 : (Jvm.Cond.fieldLink "JoinedTrees" (212 : Nat) "JoinedTrees$JsonReader" "size" "I") ∈ gb := gm_2 108 rfl rfl
theorem kw_349 : (Jvm.Cond.fieldLink "JoinedTrees$JsonReader" (34 : Nat) "JoinedTrees$JsonReader" "at" "I") ∈ gb := gm_2 109 rfl rfl
theorem kw_350 : (Jvm.Cond.fieldLink "JoinedTrees" (209 : Nat) "JoinedTrees$JsonReader" "at" "I") ∈ gb := gm_2 110 rfl rfl
theorem kw_351 : (Jvm.Cond.fieldLink "JoinedTrees$JsonReader" (37 : Nat) "JoinedTrees$JsonReader" "depth" "I") ∈ gb := gm_2 111 rfl rfl
theorem kw_352 : (Jvm.Cond.fieldLink "JoinedTrees$JsonReader" (40 : Nat) "JoinedTrees$JsonReader" "inside" "LJoinedTrees$Value;") ∈ gb := gm_2 112 rfl rfl
theorem kw_353 : (Jvm.Cond.fieldLink "JoinedTrees$JsonReader" (63 : Nat) "JoinedTrees$JsonReader" "valueIsDue" "Z") ∈ gb := gm_2 113 rfl rfl
theorem kw_354 : (Jvm.Cond.fieldLink "JoinedTrees$JsonReader" (44 : Nat) "JoinedTrees$JsonReader" "keyAt" "I") ∈ gb := gm_2 114 rfl rfl
theorem kw_355 : (Jvm.Cond.fieldLink "JoinedTrees$JsonReader" (47 : Nat) "JoinedTrees$JsonReader" "keyLength" "I") ∈ gb := gm_2 115 rfl rfl
theorem kw_356 : (Jvm.Cond.laysFinal "JoinedTrees$JsonReader" "JoinedTrees$JsonReader" "values" "[LJoinedTrees$Value;") ∈ gb := gm_2 116 rfl rfl
theorem kw_357 : (Jvm.Cond.soleField "JoinedTrees$JsonReader" "values") ∈ gb := gm_2 117 rfl rfl
theorem kw_358 : (Jvm.Cond.laysFinal "JoinedTrees$JsonReader" "JoinedTrees$JsonReader" "decoded" "LJoinedTrees$Row;") ∈ gb := gm_2 118 rfl rfl
theorem kw_359 : (Jvm.Cond.soleField "JoinedTrees$JsonReader" "decoded") ∈ gb := gm_2 119 rfl rfl
theorem kw_360 : (Jvm.Cond.lays "JoinedTrees$JsonReader" "JoinedTrees$JsonReader" "in" "LJoinedTrees$Row;") ∈ gb := gm_2 120 rfl rfl
theorem kw_361 : (Jvm.Cond.soleField "JoinedTrees$JsonReader" "in") ∈ gb := gm_2 121 rfl rfl
theorem kw_362 : (Jvm.Cond.lays "JoinedTrees$JsonReader" "JoinedTrees$JsonReader" "size" "I") ∈ gb := gm_2 122 rfl rfl
theorem kw_363 : (Jvm.Cond.soleField "JoinedTrees$JsonReader" "size") ∈ gb := gm_2 123 rfl rfl
theorem kw_364 : (Jvm.Cond.lays "JoinedTrees$JsonReader" "JoinedTrees$JsonReader" "at" "I") ∈ gb := gm_2 124 rfl rfl
theorem kw_365 : (Jvm.Cond.soleField "JoinedTrees$JsonReader" "at") ∈ gb := gm_2 125 rfl rfl
theorem kw_366 : (Jvm.Cond.lays "JoinedTrees$JsonReader" "JoinedTrees$JsonReader" "depth" "I") ∈ gb := gm_2 126 rfl rfl
theorem kw_367 : (Jvm.Cond.soleField "JoinedTrees$JsonReader" "depth") ∈ gb := gm_2 127 rfl rfl
theorem kw_368 : (Jvm.Cond.lays "JoinedTrees$JsonReader" "JoinedTrees$JsonReader" "inside" "LJoinedTrees$Value;") ∈ gb := gm_2 128 rfl rfl
theorem kw_369 : (Jvm.Cond.soleField "JoinedTrees$JsonReader" "inside") ∈ gb := gm_2 129 rfl rfl
theorem kw_370 : (Jvm.Cond.lays "JoinedTrees$JsonReader" "JoinedTrees$JsonReader" "valueIsDue" "Z") ∈ gb := gm_2 130 rfl rfl
theorem kw_371 : (Jvm.Cond.soleField "JoinedTrees$JsonReader" "valueIsDue") ∈ gb := gm_2 131 rfl rfl
theorem kw_372 : (Jvm.Cond.lays "JoinedTrees$JsonReader" "JoinedTrees$JsonReader" "keyAt" "I") ∈ gb := gm_2 132 rfl rfl
theorem kw_373 : (Jvm.Cond.soleField "JoinedTrees$JsonReader" "keyAt") ∈ gb := gm_2 133 rfl rfl
theorem kw_374 : (Jvm.Cond.lays "JoinedTrees$JsonReader" "JoinedTrees$JsonReader" "keyLength" "I") ∈ gb := gm_2 134 rfl rfl
theorem kw_375 : (Jvm.Cond.soleField "JoinedTrees$JsonReader" "keyLength") ∈ gb := gm_2 135 rfl rfl
theorem kw_376 : (Jvm.Cond.superclass "JoinedTrees$JsonReader" "java/lang/Object") ∈ gb := gm_2 136 rfl rfl
theorem kw_377 : (Jvm.Cond.classLink "JoinedTrees" (41 : Nat) "JoinedTrees$JsonWriter") ∈ gb := gm_2 137 rfl rfl
theorem kw_378 : (Jvm.Cond.instantiable "JoinedTrees$JsonWriter" (2 : Nat)) ∈ gb := gm_2 138 rfl rfl
theorem kw_379 : (Jvm.Cond.methodLink "JoinedTrees" (43 : Nat) ({ cls := "JoinedTrees$JsonWriter", name := "<init>", desc := "(LJoinedTrees$View;)V" } : Jvm.MethodName)) ∈ gb := gm_2 139 rfl rfl
theorem kw_380 : (Jvm.Cond.instanceMethod ({ cls := "JoinedTrees$JsonWriter", name := "<init>", desc := "(LJoinedTrees$View;)V" } : Jvm.MethodName)) ∈ gb := gm_2 140 rfl rfl
theorem kw_381 : (Jvm.Cond.code ({ cls := "JoinedTrees$JsonWriter", name := "<init>", desc := "(LJoinedTrees$View;)V" } : Jvm.MethodName) prog_4_method_1_code (2 : Nat) (Option.none : Option Jvm.ClassFile.FieldType)) ∈ gb := gm_2 141 rfl rfl
theorem kw_382 : (Jvm.Cond.methodLink "JoinedTrees$JsonWriter" (3 : Nat) ({ cls := "java/lang/Object", name := "<init>", desc := "()V" } : Jvm.MethodName)) ∈ gb := gm_2 142 rfl rfl
theorem kw_383 : (Jvm.Cond.classLink "JoinedTrees$JsonWriter" (9 : Nat) "JoinedTrees$Row") ∈ gb := gm_2 143 rfl rfl
theorem kw_384 : (Jvm.Cond.methodLink "JoinedTrees$JsonWriter" (11 : Nat) ({ cls := "JoinedTrees$Row", name := "<init>", desc := "(I)V" } : Jvm.MethodName)) ∈ gb := gm_2 144 rfl rfl
theorem kw_385 : (Jvm.Cond.fieldLink "JoinedTrees$JsonWriter" (20 : Nat) "JoinedTrees$JsonWriter" "view" "LJoinedTrees$View;") ∈ gb := gm_2 145 rfl rfl
theorem kw_386 : (Jvm.Cond.fieldLink "JoinedTrees$JsonWriter" (14 : Nat) "JoinedTrees$JsonWriter" "row" "LJoinedTrees$Row;") ∈ gb := gm_2 146 rfl rfl
theorem kw_387 : (Jvm.Cond.laysFinal "JoinedTrees$JsonWriter" "JoinedTrees$JsonWriter" "view" "LJoinedTrees$View;") ∈ gb := gm_2 147 rfl rfl
theorem kw_388 : (Jvm.Cond.soleField "JoinedTrees$JsonWriter" "view") ∈ gb := gm_2 148 rfl rfl
theorem kw_389 : (Jvm.Cond.laysFinal "JoinedTrees$JsonWriter" "JoinedTrees$JsonWriter" "row" "LJoinedTrees$Row;") ∈ gb := gm_2 149 rfl rfl
theorem kw_390 : (Jvm.Cond.soleField "JoinedTrees$JsonWriter" "row") ∈ gb := gm_2 150 rfl rfl
theorem kw_391 : (Jvm.Cond.superclass "JoinedTrees$JsonWriter" "java/lang/Object") ∈ gb := gm_2 151 rfl rfl
theorem kw_392 : (Jvm.Cond.classLink "JoinedTrees" (50 : Nat) "JoinedTrees$Row") ∈ gb := gm_2 152 rfl rfl
theorem kw_393 : (Jvm.Cond.constant "JoinedTrees" (52 : Nat) (224582 : Int32)) ∈ gb := gm_2 153 rfl rfl
theorem kw_394 : (Jvm.Cond.methodLink "JoinedTrees" (53 : Nat) ({ cls := "JoinedTrees$Row", name := "<init>", desc := "(I)V" } : Jvm.MethodName)) ∈ gb := gm_2 154 rfl rfl
theorem kw_395 : (Jvm.Cond.classLink "JoinedTrees" (58 : Nat) "JoinedTrees$Saver") ∈ gb := gm_2 155 rfl rfl
theorem kw_396 : (Jvm.Cond.instantiable "JoinedTrees$Saver" (6 : Nat)) ∈ gb := gm_2 156 rfl rfl
theorem kw_397 : (Jvm.Cond.methodLink "JoinedTrees" (60 : Nat) ({ cls := "JoinedTrees$Saver", name := "<init>", desc := "(LJoinedTrees$Store;LJoinedTrees$Row;)V" } : Jvm.MethodName)) ∈ gb := gm_2 157 rfl rfl
theorem kw_398 : (Jvm.Cond.instanceMethod ({ cls := "JoinedTrees$Saver", name := "<init>", desc := "(LJoinedTrees$Store;LJoinedTrees$Row;)V" } : Jvm.MethodName)) ∈ gb := gm_2 158 rfl rfl
theorem kw_399 : (Jvm.Cond.code ({ cls := "JoinedTrees$Saver", name := "<init>", desc := "(LJoinedTrees$Store;LJoinedTrees$Row;)V" } : Jvm.MethodName) prog_8_method_1_code (3 : Nat) (Option.none : Option Jvm.ClassFile.FieldType)) ∈ gb := gm_2 159 rfl rfl
theorem kw_400 : (Jvm.Cond.methodLink "JoinedTrees$Saver" (3 : Nat) ({ cls := "java/lang/Object", name := "<init>", desc := "()V" } : Jvm.MethodName)) ∈ gb := gm_2 160 rfl rfl
theorem kw_401 : (Jvm.Cond.fieldLink "JoinedTrees$Saver" (15 : Nat) "JoinedTrees$Saver" "store" "LJoinedTrees$Store;") ∈ gb := gm_2 161 rfl rfl
theorem kw_402 : (Jvm.Cond.fieldLink "JoinedTrees$Saver" (19 : Nat) "JoinedTrees$Saver" "out" "LJoinedTrees$Row;") ∈ gb := gm_2 162 rfl rfl
theorem kw_403 : (Jvm.Cond.fieldLink "JoinedTrees$Saver" (9 : Nat) "JoinedTrees$Saver" "taken" "[I") ∈ gb := gm_2 163 rfl rfl
theorem kw_404 : (Jvm.Cond.fieldLink "JoinedTrees" (369 : Nat) "JoinedTrees$Saver" "taken" "[I") ∈ gb := gm_2 164 rfl rfl
theorem kw_405 : (Jvm.Cond.fieldLink "JoinedTrees$Saver" (23 : Nat) "JoinedTrees$Saver" "compares" "Z") ∈ gb := gm_2 165 rfl rfl
theorem kw_406 : (Jvm.Cond.fieldLink "JoinedTrees$Saver" (74 : Nat) "JoinedTrees$Saver" "differs" "Z") ∈ gb := gm_2 166 rfl rfl
theorem kw_407 : (Jvm.Cond.fieldLink "JoinedTrees$Saver" (77 : Nat) "JoinedTrees$Saver" "at" "I") ∈ gb := gm_2 167 rfl rfl
theorem kw_408 : (Jvm.Cond.laysFinal "JoinedTrees$Saver" "JoinedTrees$Saver" "store" "LJoinedTrees$Store;") ∈ gb := gm_2 168 rfl rfl
theorem kw_409 : (Jvm.Cond.soleField "JoinedTrees$Saver" "store") ∈ gb := gm_2 169 rfl rfl
theorem kw_410 : (Jvm.Cond.laysFinal "JoinedTrees$Saver" "JoinedTrees$Saver" "out" "LJoinedTrees$Row;") ∈ gb := gm_2 170 rfl rfl
theorem kw_411 : (Jvm.Cond.soleField "JoinedTrees$Saver" "out") ∈ gb := gm_2 171 rfl rfl
theorem kw_412 : (Jvm.Cond.laysFinal "JoinedTrees$Saver" "JoinedTrees$Saver" "taken" "[I") ∈ gb := gm_2 172 rfl rfl
theorem kw_413 : (Jvm.Cond.soleField "JoinedTrees$Saver" "taken") ∈ gb := gm_2 173 rfl rfl
theorem kw_414 : (Jvm.Cond.lays "JoinedTrees$Saver" "JoinedTrees$Saver" "compares" "Z") ∈ gb := gm_2 174 rfl rfl
theorem kw_415 : (Jvm.Cond.soleField "JoinedTrees$Saver" "compares") ∈ gb := gm_2 175 rfl rfl
theorem kw_416 : (Jvm.Cond.lays "JoinedTrees$Saver" "JoinedTrees$Saver" "differs" "Z") ∈ gb := gm_2 176 rfl rfl
theorem kw_417 : (Jvm.Cond.soleField "JoinedTrees$Saver" "differs") ∈ gb := gm_2 177 rfl rfl
theorem kw_418 : (Jvm.Cond.lays "JoinedTrees$Saver" "JoinedTrees$Saver" "at" "I") ∈ gb := gm_2 178 rfl rfl
theorem kw_419 : (Jvm.Cond.soleField "JoinedTrees$Saver" "at") ∈ gb := gm_2 179 rfl rfl
theorem kw_420 : (Jvm.Cond.superclass "JoinedTrees$Saver" "java/lang/Object") ∈ gb := gm_2 180 rfl rfl
theorem kw_421 : (Jvm.Cond.fieldLink "JoinedTrees" (12 : Nat) "JoinedTrees" "store" "LJoinedTrees$Store;") ∈ gb := gm_2 181 rfl rfl
theorem kw_422 : (Jvm.Cond.fieldLink "JoinedTrees" (18 : Nat) "JoinedTrees" "replicas" "[LJoinedTrees$Replica;") ∈ gb := gm_2 182 rfl rfl
theorem kw_423 : (Jvm.Cond.fieldLink "JoinedTrees" (30 : Nat) "JoinedTrees" "view" "LJoinedTrees$View;") ∈ gb := gm_2 183 rfl rfl
theorem kw_424 : (Jvm.Cond.fieldLink "JoinedTrees" (37 : Nat) "JoinedTrees" "reader" "LJoinedTrees$JsonReader;") ∈ gb := gm_2 184 rfl rfl
theorem kw_425 : (Jvm.Cond.fieldLink "JoinedTrees" (46 : Nat) "JoinedTrees" "writer" "LJoinedTrees$JsonWriter;") ∈ gb := gm_2 185 rfl rfl
theorem kw_426 : (Jvm.Cond.fieldLink "JoinedTrees" (63 : Nat) "JoinedTrees" "saver" "LJoinedTrees$Saver;") ∈ gb := gm_2 186 rfl rfl
theorem kw_427 : (Jvm.Cond.fieldLink "JoinedTrees" (54 : Nat) "JoinedTrees" "out" "LJoinedTrees$Row;") ∈ gb := gm_2 187 rfl rfl
theorem kw_428 : (Jvm.Cond.fieldLink "JoinedTrees" (352 : Nat) "JoinedTrees" "outIsSaved" "Z") ∈ gb := gm_2 188 rfl rfl
theorem kw_429 : (Jvm.Cond.fieldLink "JoinedTrees" (67 : Nat) "JoinedTrees" "input" "LJoinedTrees$Row;") ∈ gb := gm_2 189 rfl rfl
theorem kw_430 : (Jvm.Cond.fieldLink "JoinedTrees" (70 : Nat) "JoinedTrees" "first" "LJoinedTrees$Row;") ∈ gb := gm_2 190 rfl rfl
theorem kw_431 : (Jvm.Cond.fieldLink "JoinedTrees" (73 : Nat) "JoinedTrees" "second" "LJoinedTrees$Row;") ∈ gb := gm_2 191 rfl rfl
theorem kw_432 : (Jvm.Cond.fieldLink "JoinedTrees" (96 : Nat) "JoinedTrees" "arguments" "I") ∈ gb := gm_2 192 rfl rfl
theorem kw_433 : (Jvm.Cond.fieldLink "JoinedTrees" (76 : Nat) "JoinedTrees" "where" "I") ∈ gb := gm_2 193 rfl rfl
theorem kw_434 : (Jvm.Cond.laysFinal "JoinedTrees" "JoinedTrees" "store" "LJoinedTrees$Store;") ∈ gb := gm_2 194 rfl rfl
theorem kw_435 : (Jvm.Cond.soleField "JoinedTrees" "store") ∈ gb := gm_2 195 rfl rfl
theorem kw_436 : (Jvm.Cond.laysFinal "JoinedTrees" "JoinedTrees" "replicas" "[LJoinedTrees$Replica;") ∈ gb := gm_2 196 rfl rfl
theorem kw_437 : (Jvm.Cond.soleField "JoinedTrees" "replicas") ∈ gb := gm_2 197 rfl rfl
theorem kw_438 : (Jvm.Cond.laysFinal "JoinedTrees" "JoinedTrees" "view" "LJoinedTrees$View;") ∈ gb := gm_2 198 rfl rfl
theorem kw_439 : (Jvm.Cond.soleField "JoinedTrees" "view") ∈ gb := gm_2 199 rfl rfl
theorem kw_440 : (Jvm.Cond.laysFinal "JoinedTrees" "JoinedTrees" "reader" "LJoinedTrees$JsonReader;") ∈ gb := gm_2 200 rfl rfl
theorem kw_441 : (Jvm.Cond.soleField "JoinedTrees" "reader") ∈ gb := gm_2 201 rfl rfl
theorem kw_442 : (Jvm.Cond.laysFinal "JoinedTrees" "JoinedTrees" "writer" "LJoinedTrees$JsonWriter;") ∈ gb := gm_2 202 rfl rfl
theorem kw_443 : (Jvm.Cond.soleField "JoinedTrees" "writer") ∈ gb := gm_2 203 rfl rfl
theorem kw_444 : (Jvm.Cond.laysFinal "JoinedTrees" "JoinedTrees" "saver" "LJoinedTrees$Saver;") ∈ gb := gm_2 204 rfl rfl
theorem kw_445 : (Jvm.Cond.soleField "JoinedTrees" "saver") ∈ gb := gm_2 205 rfl rfl
theorem kw_446 : (Jvm.Cond.laysFinal "JoinedTrees" "JoinedTrees" "out" "LJoinedTrees$Row;") ∈ gb := gm_2 206 rfl rfl
theorem kw_447 : (Jvm.Cond.soleField "JoinedTrees" "out") ∈ gb := gm_2 207 rfl rfl
theorem kw_448 : (Jvm.Cond.lays "JoinedTrees" "JoinedTrees" "outIsSaved" "Z") ∈ gb := gm_2 208 rfl rfl
theorem kw_449 : (Jvm.Cond.soleField "JoinedTrees" "outIsSaved") ∈ gb := gm_2 209 rfl rfl
theorem kw_450 : (Jvm.Cond.lays "JoinedTrees" "JoinedTrees" "input" "LJoinedTrees$Row;") ∈ gb := gm_2 210 rfl rfl
theorem kw_451 : (Jvm.Cond.soleField "JoinedTrees" "input") ∈ gb := gm_2 211 rfl rfl
theorem kw_452 : (Jvm.Cond.lays "JoinedTrees" "JoinedTrees" "first" "LJoinedTrees$Row;") ∈ gb := gm_2 212 rfl rfl
theorem kw_453 : (Jvm.Cond.soleField "JoinedTrees" "first") ∈ gb := gm_2 213 rfl rfl
theorem kw_454 : (Jvm.Cond.lays "JoinedTrees" "JoinedTrees" "second" "LJoinedTrees$Row;") ∈ gb := gm_2 214 rfl rfl
theorem kw_455 : (Jvm.Cond.soleField "JoinedTrees" "second") ∈ gb := gm_2 215 rfl rfl
theorem kw_456 : (Jvm.Cond.lays "JoinedTrees" "JoinedTrees" "arguments" "I") ∈ gb := gm_2 216 rfl rfl
theorem kw_457 : (Jvm.Cond.soleField "JoinedTrees" "arguments") ∈ gb := gm_2 217 rfl rfl
theorem kw_458 : (Jvm.Cond.lays "JoinedTrees" "JoinedTrees" "where" "I") ∈ gb := gm_2 218 rfl rfl
theorem kw_459 : (Jvm.Cond.soleField "JoinedTrees" "where") ∈ gb := gm_2 219 rfl rfl
theorem kw_460 : (Jvm.Cond.superclass "JoinedTrees" "java/lang/Object") ∈ gb := gm_2 220 rfl rfl
theorem kw_461 : (Jvm.Cond.methodLink "JoinedTreesLaw" (211 : Nat) ({ cls := "JoinedTrees", name := "told", desc := "(I)I" } : Jvm.MethodName)) ∈ gb := gm_2 221 rfl rfl
theorem kw_462 : (Jvm.Cond.instanceMethod ({ cls := "JoinedTrees", name := "told", desc := "(I)I" } : Jvm.MethodName)) ∈ gb := gm_2 222 rfl rfl
theorem kw_463 : (Jvm.Cond.selects "JoinedTrees" ({ cls := "JoinedTrees", name := "told", desc := "(I)I" } : Jvm.MethodName) ({ cls := "JoinedTrees", name := "told", desc := "(I)I" } : Jvm.MethodName)) ∈ gb := gm_2 223 rfl rfl
theorem kw_464 : (Jvm.Cond.code ({ cls := "JoinedTrees", name := "told", desc := "(I)I" } : Jvm.MethodName) prog_1_method_29_code (2 : Nat) (Option.some Jvm.ClassFile.FieldType.int)) ∈ gb := gm_2 224 rfl rfl
theorem kw_465 : (Jvm.Cond.methodLink "JoinedTreesLaw" (114 : Nat) ({ cls := "JoinedTreesLaw", name := "feed", desc := "(LJoinedTrees;IIIII[J)I" } : Jvm.MethodName)) ∈ gb := gm_2 225 rfl rfl
theorem kw_466 : (Jvm.Cond.static ({ cls := "JoinedTreesLaw", name := "feed", desc := "(LJoinedTrees;IIIII[J)I" } : Jvm.MethodName)) ∈ gb := gm_2 226 rfl rfl
theorem kw_467 : (Jvm.Cond.codeWith ({ cls := "JoinedTreesLaw", name := "feed", desc := "(LJoinedTrees;IIIII[J)I" } : Jvm.MethodName) method_3_code (8 : Nat) (Option.some Jvm.ClassFile.FieldType.int) [((0 : Nat), (16 : Nat), (19 : Nat), (13 : Nat))]) ∈ gb := gm_2 227 rfl rfl
theorem kw_468 : (Jvm.Cond.classLink "JoinedTreesLaw" (13 : Nat) "java/lang/IndexOutOfBoundsException") ∈ gb := gm_2 228 rfl rfl
theorem kw_469 : (Jvm.Cond.methodLink "JoinedTreesLaw" (7 : Nat) ({ cls := "JoinedTrees", name := "feed", desc := "(IIIII)I" } : Jvm.MethodName)) ∈ gb := gm_2 229 rfl rfl
theorem kw_470 : (Jvm.Cond.instanceMethod ({ cls := "JoinedTrees", name := "feed", desc := "(IIIII)I" } : Jvm.MethodName)) ∈ gb := gm_2 230 rfl rfl
theorem kw_471 : (Jvm.Cond.selects "JoinedTrees" ({ cls := "JoinedTrees", name := "feed", desc := "(IIIII)I" } : Jvm.MethodName) ({ cls := "JoinedTrees", name := "feed", desc := "(IIIII)I" } : Jvm.MethodName)) ∈ gb := gm_2 231 rfl rfl
theorem kw_472 : (Jvm.Cond.code ({ cls := "JoinedTrees", name := "feed", desc := "(IIIII)I" } : Jvm.MethodName) prog_1_method_2_code (6 : Nat) (Option.some Jvm.ClassFile.FieldType.int)) ∈ gb := gm_2 232 rfl rfl
theorem kw_473 : (Jvm.Cond.methodLink "JoinedTrees" (83 : Nat) ({ cls := "JoinedTrees", name := "argumentBytes", desc := "()I" } : Jvm.MethodName)) ∈ gb := gm_2 233 rfl rfl
theorem kw_475 : (Jvm.Cond.instanceMethod ({ cls := "JoinedTrees", name := "argumentBytes", desc := "()I" } : Jvm.MethodName)) ∈ gb := gm_2 235 rfl rfl
theorem kw_476 : (Jvm.Cond.code ({ cls := "JoinedTrees", name := "argumentBytes", desc := "()I" } : Jvm.MethodName) prog_1_method_31_code (1 : Nat) (Option.some Jvm.ClassFile.FieldType.int)) ∈ gb := gm_2 236 rfl rfl
theorem kw_477 : (Jvm.Cond.classLink "JoinedTrees" (87 : Nat) "java/lang/IndexOutOfBoundsException") ∈ gb := gm_2 237 rfl rfl
theorem kw_478 : (Jvm.Cond.instantiable "java/lang/IndexOutOfBoundsException" (6 : Nat)) ∈ gb := gm_2 238 rfl rfl
theorem kw_486 : (Jvm.Cond.selects "java/lang/IndexOutOfBoundsException" ({ cls := "java/lang/Throwable", name := "fillInStackTrace", desc := "(I)Ljava/lang/Throwable;" } : Jvm.MethodName) ({ cls := "java/lang/Throwable", name := "fillInStackTrace", desc := "(I)Ljava/lang/Throwable;" } : Jvm.MethodName)) ∈ gb := gm_3 6 rfl rfl
theorem kw_487 : (Jvm.Cond.selects "java/lang/IndexOutOfBoundsException" ({ cls := "java/lang/Throwable", name := "fillInStackTrace", desc := "()Ljava/lang/Throwable;" } : Jvm.MethodName) ({ cls := "java/lang/Throwable", name := "fillInStackTrace", desc := "()Ljava/lang/Throwable;" } : Jvm.MethodName)) ∈ gb := gm_3 7 rfl rfl
theorem kw_488 : (Jvm.Cond.lays "java/lang/IndexOutOfBoundsException" "java/lang/Throwable" "cause" "Ljava/lang/Throwable;") ∈ gb := gm_3 8 rfl rfl
theorem kw_489 : (Jvm.Cond.lays "java/lang/Throwable" "java/lang/Throwable" "cause" "Ljava/lang/Throwable;") ∈ gb := gm_3 9 rfl rfl
theorem kw_490 : (Jvm.Cond.lays "java/lang/IndexOutOfBoundsException" "java/lang/Throwable" "stackTrace" "[Ljava/lang/StackTraceElement;") ∈ gb := gm_3 10 rfl rfl
theorem kw_491 : (Jvm.Cond.lays "java/lang/Throwable" "java/lang/Throwable" "stackTrace" "[Ljava/lang/StackTraceElement;") ∈ gb := gm_3 11 rfl rfl
theorem kw_492 : (Jvm.Cond.lays "java/lang/IndexOutOfBoundsException" "java/lang/Throwable" "suppressedExceptions" "Ljava/util/List;") ∈ gb := gm_3 12 rfl rfl
theorem kw_493 : (Jvm.Cond.lays "java/lang/Throwable" "java/lang/Throwable" "suppressedExceptions" "Ljava/util/List;") ∈ gb := gm_3 13 rfl rfl
theorem kw_494 : (Jvm.Cond.lays "java/lang/IndexOutOfBoundsException" "java/lang/Throwable" "detailMessage" "Ljava/lang/String;") ∈ gb := gm_3 14 rfl rfl
theorem kw_495 : (Jvm.Cond.lays "java/lang/Throwable" "java/lang/Throwable" "detailMessage" "Ljava/lang/String;") ∈ gb := gm_3 15 rfl rfl
theorem kw_496 : (Jvm.Cond.lays "java/lang/IndexOutOfBoundsException" "java/lang/Throwable" "backtrace" "Ljava/lang/Object;") ∈ gb := gm_3 16 rfl rfl
theorem kw_497 : (Jvm.Cond.lays "java/lang/Throwable" "java/lang/Throwable" "backtrace" "Ljava/lang/Object;") ∈ gb := gm_3 17 rfl rfl
theorem kw_498 : (Jvm.Cond.fieldLink "java/lang/Throwable" (198 : Nat) "java/lang/Throwable" "backtrace" "Ljava/lang/Object;") ∈ gb := gm_3 18 rfl rfl
theorem kw_499 : (Jvm.Cond.superclass "java/lang/Throwable" "java/lang/Object") ∈ gb := gm_3 19 rfl rfl
theorem kw_500 : (Jvm.Cond.instanceMethod ({ cls := "java/lang/Throwable", name := "<init>", desc := "()V" } : Jvm.MethodName)) ∈ gb := gm_3 20 rfl rfl
theorem kw_501 : (Jvm.Cond.code ({ cls := "java/lang/Throwable", name := "<init>", desc := "()V" } : Jvm.MethodName) prog_27_method_1_code (1 : Nat) (Option.none : Option Jvm.ClassFile.FieldType)) ∈ gb := gm_3 21 rfl rfl
theorem kw_502 : (Jvm.Cond.methodLink "java/lang/Throwable" (1 : Nat) ({ cls := "java/lang/Object", name := "<init>", desc := "()V" } : Jvm.MethodName)) ∈ gb := gm_3 22 rfl rfl
theorem kw_503 : (Jvm.Cond.fieldLink "java/lang/Throwable" (13 : Nat) "java/lang/Throwable" "UNASSIGNED_STACK" "[Ljava/lang/StackTraceElement;") ∈ gb := gm_3 23 rfl rfl
theorem kw_505 : (Jvm.Cond.fieldLink "java/lang/Throwable" (20 : Nat) "java/lang/Throwable" "SUPPRESSED_SENTINEL" "Ljava/util/List;") ∈ gb := gm_3 25 rfl rfl
theorem kw_507 : (Jvm.Cond.methodLink "java/lang/Throwable" (27 : Nat) ({ cls := "java/lang/Throwable", name := "fillInStackTrace", desc := "()Ljava/lang/Throwable;" } : Jvm.MethodName)) ∈ gb := gm_3 27 rfl rfl
theorem kw_508 : (Jvm.Cond.instanceMethod ({ cls := "java/lang/Throwable", name := "fillInStackTrace", desc := "()Ljava/lang/Throwable;" } : Jvm.MethodName)) ∈ gb := gm_3 28 rfl rfl
theorem kw_509 : (Jvm.Cond.sameMethod "java/lang/Throwable" "java/lang/Throwable" "fillInStackTrace" "()Ljava/lang/Throwable;") ∈ gb := gm_3 29 rfl rfl
theorem kw_510 : (Jvm.Cond.selects "java/lang/ArithmeticException" ({ cls := "java/lang/Throwable", name := "fillInStackTrace", desc := "()Ljava/lang/Throwable;" } : Jvm.MethodName) ({ cls := "java/lang/Throwable", name := "fillInStackTrace", desc := "()Ljava/lang/Throwable;" } : Jvm.MethodName)) ∈ gb := gm_3 30 rfl rfl
theorem kw_511 : (Jvm.Cond.selects "java/lang/IllegalArgumentException" ({ cls := "java/lang/Throwable", name := "fillInStackTrace", desc := "()Ljava/lang/Throwable;" } : Jvm.MethodName) ({ cls := "java/lang/Throwable", name := "fillInStackTrace", desc := "()Ljava/lang/Throwable;" } : Jvm.MethodName)) ∈ gb := gm_3 31 rfl rfl
theorem kw_512 : (Jvm.Cond.selects "java/lang/IllegalStateException" ({ cls := "java/lang/Throwable", name := "fillInStackTrace", desc := "()Ljava/lang/Throwable;" } : Jvm.MethodName) ({ cls := "java/lang/Throwable", name := "fillInStackTrace", desc := "()Ljava/lang/Throwable;" } : Jvm.MethodName)) ∈ gb := gm_3 32 rfl rfl
theorem kw_513 : (Jvm.Cond.selects "java/util/NoSuchElementException" ({ cls := "java/lang/Throwable", name := "fillInStackTrace", desc := "()Ljava/lang/Throwable;" } : Jvm.MethodName) ({ cls := "java/lang/Throwable", name := "fillInStackTrace", desc := "()Ljava/lang/Throwable;" } : Jvm.MethodName)) ∈ gb := gm_3 33 rfl rfl
theorem kw_514 : (Jvm.Cond.codeSync ({ cls := "java/lang/Throwable", name := "fillInStackTrace", desc := "()Ljava/lang/Throwable;" } : Jvm.MethodName) prog_27_method_18_code (1 : Nat) (Option.some (Jvm.ClassFile.FieldType.object "java/lang/Throwable"))) ∈ gb := gm_3 34 rfl rfl
theorem kw_515 : (Jvm.Cond.methodLink "java/lang/Throwable" (202 : Nat) ({ cls := "java/lang/Throwable", name := "fillInStackTrace", desc := "(I)Ljava/lang/Throwable;" } : Jvm.MethodName)) ∈ gb := gm_3 35 rfl rfl
theorem kw_517 : (Jvm.Cond.instanceMethod ({ cls := "java/lang/Throwable", name := "fillInStackTrace", desc := "(I)Ljava/lang/Throwable;" } : Jvm.MethodName)) ∈ gb := gm_3 37 rfl rfl
theorem kw_518 : (Jvm.Cond.instantiable "java/lang/Throwable" (6 : Nat)) ∈ gb := gm_3 38 rfl rfl
theorem kw_519 : (Jvm.Cond.native ({ cls := "java/lang/Throwable", name := "fillInStackTrace", desc := "(I)Ljava/lang/Throwable;" } : Jvm.MethodName)) ∈ gb := gm_3 39 rfl rfl
theorem kw_520 : (Jvm.Cond.methodLink "JoinedTrees" (89 : Nat) ({ cls := "java/lang/IndexOutOfBoundsException", name := "<init>", desc := "()V" } : Jvm.MethodName)) ∈ gb := gm_3 40 rfl rfl
theorem kw_521 : (Jvm.Cond.instanceMethod ({ cls := "java/lang/IndexOutOfBoundsException", name := "<init>", desc := "()V" } : Jvm.MethodName)) ∈ gb := gm_3 41 rfl rfl
theorem kw_522 : (Jvm.Cond.code ({ cls := "java/lang/IndexOutOfBoundsException", name := "<init>", desc := "()V" } : Jvm.MethodName) prog_20_method_1_code (1 : Nat) (Option.none : Option Jvm.ClassFile.FieldType)) ∈ gb := gm_3 42 rfl rfl
theorem kw_523 : (Jvm.Cond.methodLink "java/lang/IndexOutOfBoundsException" (1 : Nat) ({ cls := "java/lang/RuntimeException", name := "<init>", desc := "()V" } : Jvm.MethodName)) ∈ gb := gm_3 43 rfl rfl
theorem kw_524 : (Jvm.Cond.instanceMethod ({ cls := "java/lang/RuntimeException", name := "<init>", desc := "()V" } : Jvm.MethodName)) ∈ gb := gm_3 44 rfl rfl
theorem kw_525 : (Jvm.Cond.code ({ cls := "java/lang/RuntimeException", name := "<init>", desc := "()V" } : Jvm.MethodName) prog_22_method_1_code (1 : Nat) (Option.none : Option Jvm.ClassFile.FieldType)) ∈ gb := gm_3 45 rfl rfl
theorem kw_526 : (Jvm.Cond.methodLink "java/lang/RuntimeException" (1 : Nat) ({ cls := "java/lang/Exception", name := "<init>", desc := "()V" } : Jvm.MethodName)) ∈ gb := gm_3 46 rfl rfl
theorem kw_527 : (Jvm.Cond.instanceMethod ({ cls := "java/lang/Exception", name := "<init>", desc := "()V" } : Jvm.MethodName)) ∈ gb := gm_3 47 rfl rfl
theorem kw_528 : (Jvm.Cond.code ({ cls := "java/lang/Exception", name := "<init>", desc := "()V" } : Jvm.MethodName) prog_17_method_1_code (1 : Nat) (Option.none : Option Jvm.ClassFile.FieldType)) ∈ gb := gm_3 48 rfl rfl
theorem kw_529 : (Jvm.Cond.methodLink "java/lang/Exception" (1 : Nat) ({ cls := "java/lang/Throwable", name := "<init>", desc := "()V" } : Jvm.MethodName)) ∈ gb := gm_3 49 rfl rfl
theorem kw_530 : (Jvm.Cond.fieldLink "java/lang/Throwable" (198 : Nat) "java/lang/Throwable" "backtrace" "Ljava/lang/Object;") ∈ gb := gm_3 50 rfl rfl
theorem kw_531 : (Jvm.Cond.fieldLink "java/lang/Throwable" (7 : Nat) "java/lang/Throwable" "cause" "Ljava/lang/Throwable;") ∈ gb := gm_3 51 rfl rfl
theorem kw_532 : (Jvm.Cond.fieldLink "java/lang/Throwable" (17 : Nat) "java/lang/Throwable" "stackTrace" "[Ljava/lang/StackTraceElement;") ∈ gb := gm_3 52 rfl rfl
theorem kw_533 : (Jvm.Cond.fieldLink "java/lang/Throwable" (24 : Nat) "java/lang/Throwable" "suppressedExceptions" "Ljava/util/List;") ∈ gb := gm_3 53 rfl rfl
theorem kw_534 : (Jvm.Cond.soleField "java/lang/Throwable" "backtrace") ∈ gb := gm_3 54 rfl rfl
theorem kw_535 : (Jvm.Cond.soleField "java/lang/Throwable" "detailMessage") ∈ gb := gm_3 55 rfl rfl
theorem kw_536 : (Jvm.Cond.soleField "java/lang/Throwable" "cause") ∈ gb := gm_3 56 rfl rfl
theorem kw_537 : (Jvm.Cond.soleField "java/lang/Throwable" "stackTrace") ∈ gb := gm_3 57 rfl rfl
theorem kw_538 : (Jvm.Cond.lays "java/lang/IndexOutOfBoundsException" "java/lang/Throwable" "depth" "I") ∈ gb := gm_3 58 rfl rfl
theorem kw_539 : (Jvm.Cond.soleField "java/lang/Throwable" "depth") ∈ gb := gm_3 59 rfl rfl
theorem kw_540 : (Jvm.Cond.soleField "java/lang/Throwable" "suppressedExceptions") ∈ gb := gm_3 60 rfl rfl
theorem kw_541 : (Jvm.Cond.superclass "java/lang/IndexOutOfBoundsException" "java/lang/RuntimeException") ∈ gb := gm_3 61 rfl rfl
theorem kw_542 : (Jvm.Cond.methodLink "JoinedTrees" (90 : Nat) ({ cls := "JoinedTrees$Row", name := "writeInt", desc := "(I)V" } : Jvm.MethodName)) ∈ gb := gm_3 62 rfl rfl
theorem kw_543 : (Jvm.Cond.instanceMethod ({ cls := "JoinedTrees$Row", name := "writeInt", desc := "(I)V" } : Jvm.MethodName)) ∈ gb := gm_3 63 rfl rfl
theorem kw_544 : (Jvm.Cond.selects "JoinedTrees$Row" ({ cls := "JoinedTrees$Row", name := "writeInt", desc := "(I)V" } : Jvm.MethodName) ({ cls := "JoinedTrees$Row", name := "writeInt", desc := "(I)V" } : Jvm.MethodName)) ∈ gb := gm_3 64 rfl rfl
theorem kw_545 : (Jvm.Cond.code ({ cls := "JoinedTrees$Row", name := "writeInt", desc := "(I)V" } : Jvm.MethodName) prog_7_method_4_code (2 : Nat) (Option.none : Option Jvm.ClassFile.FieldType)) ∈ gb := gm_3 65 rfl rfl
theorem kw_546 : (Jvm.Cond.methodLink "JoinedTrees$Row" (21 : Nat) ({ cls := "JoinedTrees$Row", name := "write", desc := "(I)V" } : Jvm.MethodName)) ∈ gb := gm_3 66 rfl rfl
theorem kw_547 : (Jvm.Cond.instanceMethod ({ cls := "JoinedTrees$Row", name := "write", desc := "(I)V" } : Jvm.MethodName)) ∈ gb := gm_3 67 rfl rfl
theorem kw_548 : (Jvm.Cond.selects "JoinedTrees$Row" ({ cls := "JoinedTrees$Row", name := "write", desc := "(I)V" } : Jvm.MethodName) ({ cls := "JoinedTrees$Row", name := "write", desc := "(I)V" } : Jvm.MethodName)) ∈ gb := gm_3 68 rfl rfl
theorem kw_549 : (Jvm.Cond.code ({ cls := "JoinedTrees$Row", name := "write", desc := "(I)V" } : Jvm.MethodName) prog_7_method_3_code (2 : Nat) (Option.none : Option Jvm.ClassFile.FieldType)) ∈ gb := gm_3 69 rfl rfl
theorem kw_550 : (Jvm.Cond.methodLink "JoinedTreesLaw" (124 : Nat) ({ cls := "JoinedTreesLaw", name := "end", desc := "(LJoinedTrees;I[J)I" } : Jvm.MethodName)) ∈ gb := gm_3 70 rfl rfl
theorem kw_551 : (Jvm.Cond.static ({ cls := "JoinedTreesLaw", name := "end", desc := "(LJoinedTrees;I[J)I" } : Jvm.MethodName)) ∈ gb := gm_3 71 rfl rfl
theorem kw_552 : (Jvm.Cond.codeWith ({ cls := "JoinedTreesLaw", name := "end", desc := "(LJoinedTrees;I[J)I" } : Jvm.MethodName) method_4_code (4 : Nat) (Option.some Jvm.ClassFile.FieldType.int) [((0 : Nat), (9 : Nat), (12 : Nat), (19 : Nat))]) ∈ gb := gm_3 72 rfl rfl
theorem kw_553 : (Jvm.Cond.classLink "JoinedTreesLaw" (19 : Nat) "java/lang/IllegalArgumentException") ∈ gb := gm_3 73 rfl rfl
theorem kw_554 : (Jvm.Cond.methodLink "JoinedTreesLaw" (15 : Nat) ({ cls := "JoinedTrees", name := "end", desc := "(I)I" } : Jvm.MethodName)) ∈ gb := gm_3 74 rfl rfl
theorem kw_555 : (Jvm.Cond.instanceMethod ({ cls := "JoinedTrees", name := "end", desc := "(I)I" } : Jvm.MethodName)) ∈ gb := gm_3 75 rfl rfl
theorem kw_556 : (Jvm.Cond.selects "JoinedTrees" ({ cls := "JoinedTrees", name := "end", desc := "(I)I" } : Jvm.MethodName) ({ cls := "JoinedTrees", name := "end", desc := "(I)I" } : Jvm.MethodName)) ∈ gb := gm_3 76 rfl rfl
theorem kw_557 : (Jvm.Cond.code ({ cls := "JoinedTrees", name := "end", desc := "(I)I" } : Jvm.MethodName) prog_1_method_3_code (3 : Nat) (Option.some Jvm.ClassFile.FieldType.int)) ∈ gb := gm_3 77 rfl rfl
theorem kw_558 : (Jvm.Cond.classLink "JoinedTrees" (93 : Nat) "java/lang/IllegalArgumentException") ∈ gb := gm_3 78 rfl rfl
theorem kw_559 : (Jvm.Cond.instantiable "java/lang/IllegalArgumentException" (6 : Nat)) ∈ gb := gm_3 79 rfl rfl
theorem kw_561 : (Jvm.Cond.selects "java/lang/IllegalArgumentException" ({ cls := "java/lang/Throwable", name := "fillInStackTrace", desc := "(I)Ljava/lang/Throwable;" } : Jvm.MethodName) ({ cls := "java/lang/Throwable", name := "fillInStackTrace", desc := "(I)Ljava/lang/Throwable;" } : Jvm.MethodName)) ∈ gb := gm_3 81 rfl rfl
theorem kw_562 : (Jvm.Cond.lays "java/lang/IllegalArgumentException" "java/lang/Throwable" "cause" "Ljava/lang/Throwable;") ∈ gb := gm_3 82 rfl rfl
theorem kw_563 : (Jvm.Cond.lays "java/lang/IllegalArgumentException" "java/lang/Throwable" "stackTrace" "[Ljava/lang/StackTraceElement;") ∈ gb := gm_3 83 rfl rfl
theorem kw_564 : (Jvm.Cond.lays "java/lang/IllegalArgumentException" "java/lang/Throwable" "suppressedExceptions" "Ljava/util/List;") ∈ gb := gm_3 84 rfl rfl
theorem kw_565 : (Jvm.Cond.lays "java/lang/IllegalArgumentException" "java/lang/Throwable" "detailMessage" "Ljava/lang/String;") ∈ gb := gm_3 85 rfl rfl
theorem kw_566 : (Jvm.Cond.lays "java/lang/IllegalArgumentException" "java/lang/Throwable" "backtrace" "Ljava/lang/Object;") ∈ gb := gm_3 86 rfl rfl
theorem kw_567 : (Jvm.Cond.methodLink "JoinedTrees" (95 : Nat) ({ cls := "java/lang/IllegalArgumentException", name := "<init>", desc := "()V" } : Jvm.MethodName)) ∈ gb := gm_3 87 rfl rfl
theorem kw_568 : (Jvm.Cond.instanceMethod ({ cls := "java/lang/IllegalArgumentException", name := "<init>", desc := "()V" } : Jvm.MethodName)) ∈ gb := gm_3 88 rfl rfl
theorem kw_569 : (Jvm.Cond.code ({ cls := "java/lang/IllegalArgumentException", name := "<init>", desc := "()V" } : Jvm.MethodName) prog_18_method_1_code (1 : Nat) (Option.none : Option Jvm.ClassFile.FieldType)) ∈ gb := gm_3 89 rfl rfl
theorem kw_570 : (Jvm.Cond.methodLink "java/lang/IllegalArgumentException" (1 : Nat) ({ cls := "java/lang/RuntimeException", name := "<init>", desc := "()V" } : Jvm.MethodName)) ∈ gb := gm_3 90 rfl rfl
theorem kw_571 : (Jvm.Cond.lays "java/lang/IllegalArgumentException" "java/lang/Throwable" "depth" "I") ∈ gb := gm_3 91 rfl rfl
theorem kw_572 : (Jvm.Cond.superclass "java/lang/IllegalArgumentException" "java/lang/RuntimeException") ∈ gb := gm_3 92 rfl rfl
theorem kw_573 : (Jvm.Cond.methodLink "JoinedTrees" (99 : Nat) ({ cls := "JoinedTrees$Row", name := "clear", desc := "()V" } : Jvm.MethodName)) ∈ gb := gm_3 93 rfl rfl
theorem kw_574 : (Jvm.Cond.instanceMethod ({ cls := "JoinedTrees$Row", name := "clear", desc := "()V" } : Jvm.MethodName)) ∈ gb := gm_3 94 rfl rfl
theorem kw_575 : (Jvm.Cond.selects "JoinedTrees$Row" ({ cls := "JoinedTrees$Row", name := "clear", desc := "()V" } : Jvm.MethodName) ({ cls := "JoinedTrees$Row", name := "clear", desc := "()V" } : Jvm.MethodName)) ∈ gb := gm_3 95 rfl rfl
theorem kw_576 : (Jvm.Cond.code ({ cls := "JoinedTrees$Row", name := "clear", desc := "()V" } : Jvm.MethodName) prog_7_method_2_code (1 : Nat) (Option.none : Option Jvm.ClassFile.FieldType)) ∈ gb := gm_3 96 rfl rfl
theorem kw_577 : (Jvm.Cond.methodLink "JoinedTreesLaw" (130 : Nat) ({ cls := "JoinedTreesLaw", name := "set", desc := "(LJoinedTrees;IIIJ[J)I" } : Jvm.MethodName)) ∈ gb := gm_3 97 rfl rfl
theorem kw_578 : (Jvm.Cond.static ({ cls := "JoinedTreesLaw", name := "set", desc := "(LJoinedTrees;IIIJ[J)I" } : Jvm.MethodName)) ∈ gb := gm_3 98 rfl rfl
theorem kw_579 : (Jvm.Cond.codeWith ({ cls := "JoinedTreesLaw", name := "set", desc := "(LJoinedTrees;IIIJ[J)I" } : Jvm.MethodName) method_5_code (8 : Nat) (Option.some Jvm.ClassFile.FieldType.int) [((0 : Nat), (14 : Nat), (17 : Nat), (19 : Nat)), ((0 : Nat), (14 : Nat), (21 : Nat), (25 : Nat)), ((0 : Nat), (14 : Nat), (25 : Nat), (27 : Nat)), ((0 : Nat), (14 : Nat), (29 : Nat), (13 : Nat))]) ∈ gb := gm_3 99 rfl rfl
theorem kw_580 : (Jvm.Cond.classLink "JoinedTreesLaw" (25 : Nat) "java/lang/IllegalStateException") ∈ gb := gm_3 100 rfl rfl
theorem kw_581 : (Jvm.Cond.classLink "JoinedTreesLaw" (27 : Nat) "java/util/NoSuchElementException") ∈ gb := gm_3 101 rfl rfl
theorem kw_582 : (Jvm.Cond.methodLink "JoinedTreesLaw" (21 : Nat) ({ cls := "JoinedTrees", name := "set", desc := "(IIIJ)I" } : Jvm.MethodName)) ∈ gb := gm_3 102 rfl rfl
theorem kw_583 : (Jvm.Cond.instanceMethod ({ cls := "JoinedTrees", name := "set", desc := "(IIIJ)I" } : Jvm.MethodName)) ∈ gb := gm_3 103 rfl rfl
theorem kw_584 : (Jvm.Cond.selects "JoinedTrees" ({ cls := "JoinedTrees", name := "set", desc := "(IIIJ)I" } : Jvm.MethodName) ({ cls := "JoinedTrees", name := "set", desc := "(IIIJ)I" } : Jvm.MethodName)) ∈ gb := gm_3 104 rfl rfl
theorem kw_585 : (Jvm.Cond.code ({ cls := "JoinedTrees", name := "set", desc := "(IIIJ)I" } : Jvm.MethodName) prog_1_method_4_code (10 : Nat) (Option.some Jvm.ClassFile.FieldType.int)) ∈ gb := gm_3 105 rfl rfl
theorem kw_586 : (Jvm.Cond.methodLink "JoinedTrees" (102 : Nat) ({ cls := "JoinedTrees", name := "takeArguments", desc := "()I" } : Jvm.MethodName)) ∈ gb := gm_3 106 rfl rfl
theorem kw_588 : (Jvm.Cond.instanceMethod ({ cls := "JoinedTrees", name := "takeArguments", desc := "()I" } : Jvm.MethodName)) ∈ gb := gm_3 108 rfl rfl
theorem kw_589 : (Jvm.Cond.code ({ cls := "JoinedTrees", name := "takeArguments", desc := "()I" } : Jvm.MethodName) prog_1_method_30_code (2 : Nat) (Option.some Jvm.ClassFile.FieldType.int)) ∈ gb := gm_3 109 rfl rfl
theorem kw_590 : (Jvm.Cond.methodLink "JoinedTrees" (105 : Nat) ({ cls := "JoinedTrees", name := "shown", desc := "(I)LJoinedTrees$Replica;" } : Jvm.MethodName)) ∈ gb := gm_3 110 rfl rfl
theorem kw_592 : (Jvm.Cond.instanceMethod ({ cls := "JoinedTrees", name := "shown", desc := "(I)LJoinedTrees$Replica;" } : Jvm.MethodName)) ∈ gb := gm_3 112 rfl rfl
theorem kw_593 : (Jvm.Cond.code ({ cls := "JoinedTrees", name := "shown", desc := "(I)LJoinedTrees$Replica;" } : Jvm.MethodName) prog_1_method_32_code (2 : Nat) (Option.some (Jvm.ClassFile.FieldType.object "JoinedTrees$Replica"))) ∈ gb := gm_3 113 rfl rfl
theorem kw_594 : (Jvm.Cond.methodLink "JoinedTrees" (398 : Nat) ({ cls := "JoinedTrees$View", name := "show", desc := "(LJoinedTrees$Replica;)V" } : Jvm.MethodName)) ∈ gb := gm_3 114 rfl rfl
theorem kw_595 : (Jvm.Cond.instanceMethod ({ cls := "JoinedTrees$View", name := "show", desc := "(LJoinedTrees$Replica;)V" } : Jvm.MethodName)) ∈ gb := gm_3 115 rfl rfl
theorem kw_596 : (Jvm.Cond.selects "JoinedTrees$View" ({ cls := "JoinedTrees$View", name := "show", desc := "(LJoinedTrees$Replica;)V" } : Jvm.MethodName) ({ cls := "JoinedTrees$View", name := "show", desc := "(LJoinedTrees$Replica;)V" } : Jvm.MethodName)) ∈ gb := gm_3 116 rfl rfl
theorem kw_597 : (Jvm.Cond.code ({ cls := "JoinedTrees$View", name := "show", desc := "(LJoinedTrees$Replica;)V" } : Jvm.MethodName) prog_12_method_2_code (3 : Nat) (Option.none : Option Jvm.ClassFile.FieldType)) ∈ gb := gm_3 117 rfl rfl
theorem kw_598 : (Jvm.Cond.methodLink "JoinedTrees$View" (37 : Nat) ({ cls := "java/lang/System", name := "arraycopy", desc := "(Ljava/lang/Object;ILjava/lang/Object;II)V" } : Jvm.MethodName)) ∈ gb := gm_3 118 rfl rfl
theorem kw_599 : (Jvm.Cond.static ({ cls := "java/lang/System", name := "arraycopy", desc := "(Ljava/lang/Object;ILjava/lang/Object;II)V" } : Jvm.MethodName)) ∈ gb := gm_3 119 rfl rfl
theorem kw_600 : (Jvm.Cond.native ({ cls := "java/lang/System", name := "arraycopy", desc := "(Ljava/lang/Object;ILjava/lang/Object;II)V" } : Jvm.MethodName)) ∈ gb := gm_3 120 rfl rfl
theorem kw_601 : (Jvm.Cond.methodLink "JoinedTrees" (109 : Nat) ({ cls := "JoinedTrees", name := "needValue", desc := "(III)V" } : Jvm.MethodName)) ∈ gb := gm_3 121 rfl rfl
theorem kw_603 : (Jvm.Cond.instanceMethod ({ cls := "JoinedTrees", name := "needValue", desc := "(III)V" } : Jvm.MethodName)) ∈ gb := gm_3 123 rfl rfl
theorem kw_604 : (Jvm.Cond.code ({ cls := "JoinedTrees", name := "needValue", desc := "(III)V" } : Jvm.MethodName) prog_1_method_33_code (5 : Nat) (Option.none : Option Jvm.ClassFile.FieldType)) ∈ gb := gm_3 124 rfl rfl
theorem kw_605 : (Jvm.Cond.methodLink "JoinedTrees" (113 : Nat) ({ cls := "JoinedTrees", name := "needKey", desc := "()V" } : Jvm.MethodName)) ∈ gb := gm_3 125 rfl rfl
theorem kw_607 : (Jvm.Cond.instanceMethod ({ cls := "JoinedTrees", name := "needKey", desc := "()V" } : Jvm.MethodName)) ∈ gb := gm_3 127 rfl rfl
theorem kw_608 : (Jvm.Cond.code ({ cls := "JoinedTrees", name := "needKey", desc := "()V" } : Jvm.MethodName) prog_1_method_34_code (1 : Nat) (Option.none : Option Jvm.ClassFile.FieldType)) ∈ gb := gm_3 128 rfl rfl
theorem kw_609 : (Jvm.Cond.methodLink "JoinedTrees" (116 : Nat) ({ cls := "JoinedTrees", name := "mapAt", desc := "(I)LJoinedTrees$Op;" } : Jvm.MethodName)) ∈ gb := gm_3 129 rfl rfl
theorem kw_611 : (Jvm.Cond.instanceMethod ({ cls := "JoinedTrees", name := "mapAt", desc := "(I)LJoinedTrees$Op;" } : Jvm.MethodName)) ∈ gb := gm_3 131 rfl rfl
theorem kw_612 : (Jvm.Cond.code ({ cls := "JoinedTrees", name := "mapAt", desc := "(I)LJoinedTrees$Op;" } : Jvm.MethodName) prog_1_method_42_code (3 : Nat) (Option.some (Jvm.ClassFile.FieldType.object "JoinedTrees$Op"))) ∈ gb := gm_3 132 rfl rfl
theorem kw_613 : (Jvm.Cond.methodLink "JoinedTrees" (168 : Nat) ({ cls := "JoinedTrees", name := "objectAt", desc := "(I)LJoinedTrees$Op;" } : Jvm.MethodName)) ∈ gb := gm_3 133 rfl rfl
theorem kw_615 : (Jvm.Cond.instanceMethod ({ cls := "JoinedTrees", name := "objectAt", desc := "(I)LJoinedTrees$Op;" } : Jvm.MethodName)) ∈ gb := gm_3 135 rfl rfl
theorem kw_616 : (Jvm.Cond.code ({ cls := "JoinedTrees", name := "objectAt", desc := "(I)LJoinedTrees$Op;" } : Jvm.MethodName) prog_1_method_41_code (3 : Nat) (Option.some (Jvm.ClassFile.FieldType.object "JoinedTrees$Op"))) ∈ gb := gm_3 136 rfl rfl
theorem kw_617 : (Jvm.Cond.methodLink "JoinedTrees" (306 : Nat) ({ cls := "JoinedTrees$View", name := "opAt", desc := "(I)LJoinedTrees$Op;" } : Jvm.MethodName)) ∈ gb := gm_3 137 rfl rfl
theorem kw_618 : (Jvm.Cond.instanceMethod ({ cls := "JoinedTrees$View", name := "opAt", desc := "(I)LJoinedTrees$Op;" } : Jvm.MethodName)) ∈ gb := gm_3 138 rfl rfl
theorem kw_619 : (Jvm.Cond.selects "JoinedTrees$View" ({ cls := "JoinedTrees$View", name := "opAt", desc := "(I)LJoinedTrees$Op;" } : Jvm.MethodName) ({ cls := "JoinedTrees$View", name := "opAt", desc := "(I)LJoinedTrees$Op;" } : Jvm.MethodName)) ∈ gb := gm_3 139 rfl rfl
theorem kw_620 : (Jvm.Cond.code ({ cls := "JoinedTrees$View", name := "opAt", desc := "(I)LJoinedTrees$Op;" } : Jvm.MethodName) prog_12_method_4_code (3 : Nat) (Option.some (Jvm.ClassFile.FieldType.object "JoinedTrees$Op"))) ∈ gb := gm_3 140 rfl rfl
theorem kw_621 : (Jvm.Cond.methodLink "JoinedTrees$View" (62 : Nat) ({ cls := "JoinedTrees$View", name := "shows", desc := "(LJoinedTrees$Op;)Z" } : Jvm.MethodName)) ∈ gb := gm_3 141 rfl rfl
theorem kw_622 : (Jvm.Cond.instanceMethod ({ cls := "JoinedTrees$View", name := "shows", desc := "(LJoinedTrees$Op;)Z" } : Jvm.MethodName)) ∈ gb := gm_3 142 rfl rfl
theorem kw_623 : (Jvm.Cond.selects "JoinedTrees$View" ({ cls := "JoinedTrees$View", name := "shows", desc := "(LJoinedTrees$Op;)Z" } : Jvm.MethodName) ({ cls := "JoinedTrees$View", name := "shows", desc := "(LJoinedTrees$Op;)Z" } : Jvm.MethodName)) ∈ gb := gm_3 143 rfl rfl
theorem kw_624 : (Jvm.Cond.code ({ cls := "JoinedTrees$View", name := "shows", desc := "(LJoinedTrees$Op;)Z" } : Jvm.MethodName) prog_12_method_3_code (2 : Nat) (Option.some Jvm.ClassFile.FieldType.boolean)) ∈ gb := gm_3 144 rfl rfl
theorem kw_625 : (Jvm.Cond.methodLink "JoinedTrees" (401 : Nat) ({ cls := "JoinedTrees$Op", name := "isObject", desc := "()Z" } : Jvm.MethodName)) ∈ gb := gm_3 145 rfl rfl
theorem kw_626 : (Jvm.Cond.instanceMethod ({ cls := "JoinedTrees$Op", name := "isObject", desc := "()Z" } : Jvm.MethodName)) ∈ gb := gm_3 146 rfl rfl
theorem kw_627 : (Jvm.Cond.selects "JoinedTrees$Op" ({ cls := "JoinedTrees$Op", name := "isObject", desc := "()Z" } : Jvm.MethodName) ({ cls := "JoinedTrees$Op", name := "isObject", desc := "()Z" } : Jvm.MethodName)) ∈ gb := gm_3 147 rfl rfl
theorem kw_628 : (Jvm.Cond.code ({ cls := "JoinedTrees$Op", name := "isObject", desc := "()Z" } : Jvm.MethodName) prog_5_method_2_code (1 : Nat) (Option.some Jvm.ClassFile.FieldType.boolean)) ∈ gb := gm_3 148 rfl rfl
theorem kw_629 : (Jvm.Cond.classLink "JoinedTrees" (178 : Nat) "java/util/NoSuchElementException") ∈ gb := gm_3 149 rfl rfl
theorem kw_630 : (Jvm.Cond.instantiable "java/util/NoSuchElementException" (6 : Nat)) ∈ gb := gm_3 150 rfl rfl
theorem kw_632 : (Jvm.Cond.selects "java/util/NoSuchElementException" ({ cls := "java/lang/Throwable", name := "fillInStackTrace", desc := "(I)Ljava/lang/Throwable;" } : Jvm.MethodName) ({ cls := "java/lang/Throwable", name := "fillInStackTrace", desc := "(I)Ljava/lang/Throwable;" } : Jvm.MethodName)) ∈ gb := gm_3 152 rfl rfl
theorem kw_633 : (Jvm.Cond.lays "java/util/NoSuchElementException" "java/lang/Throwable" "cause" "Ljava/lang/Throwable;") ∈ gb := gm_3 153 rfl rfl
theorem kw_634 : (Jvm.Cond.lays "java/util/NoSuchElementException" "java/lang/Throwable" "stackTrace" "[Ljava/lang/StackTraceElement;") ∈ gb := gm_3 154 rfl rfl
theorem kw_635 : (Jvm.Cond.lays "java/util/NoSuchElementException" "java/lang/Throwable" "suppressedExceptions" "Ljava/util/List;") ∈ gb := gm_3 155 rfl rfl
theorem kw_636 : (Jvm.Cond.lays "java/util/NoSuchElementException" "java/lang/Throwable" "detailMessage" "Ljava/lang/String;") ∈ gb := gm_3 156 rfl rfl
theorem kw_637 : (Jvm.Cond.lays "java/util/NoSuchElementException" "java/lang/Throwable" "backtrace" "Ljava/lang/Object;") ∈ gb := gm_3 157 rfl rfl
theorem kw_638 : (Jvm.Cond.methodLink "JoinedTrees" (180 : Nat) ({ cls := "java/util/NoSuchElementException", name := "<init>", desc := "()V" } : Jvm.MethodName)) ∈ gb := gm_3 158 rfl rfl
theorem kw_639 : (Jvm.Cond.instanceMethod ({ cls := "java/util/NoSuchElementException", name := "<init>", desc := "()V" } : Jvm.MethodName)) ∈ gb := gm_3 159 rfl rfl
theorem kw_640 : (Jvm.Cond.code ({ cls := "java/util/NoSuchElementException", name := "<init>", desc := "()V" } : Jvm.MethodName) prog_28_method_1_code (1 : Nat) (Option.none : Option Jvm.ClassFile.FieldType)) ∈ gb := gm_3 160 rfl rfl
theorem kw_641 : (Jvm.Cond.methodLink "java/util/NoSuchElementException" (1 : Nat) ({ cls := "java/lang/RuntimeException", name := "<init>", desc := "()V" } : Jvm.MethodName)) ∈ gb := gm_3 161 rfl rfl
theorem kw_642 : (Jvm.Cond.lays "java/util/NoSuchElementException" "java/lang/Throwable" "depth" "I") ∈ gb := gm_3 162 rfl rfl
theorem kw_643 : (Jvm.Cond.superclass "java/util/NoSuchElementException" "java/lang/RuntimeException") ∈ gb := gm_3 163 rfl rfl
theorem kw_644 : (Jvm.Cond.methodLink "JoinedTrees" (120 : Nat) ({ cls := "JoinedTrees", name := "needAll", desc := "(LJoinedTrees$Replica;)V" } : Jvm.MethodName)) ∈ gb := gm_3 164 rfl rfl
theorem kw_646 : (Jvm.Cond.instanceMethod ({ cls := "JoinedTrees", name := "needAll", desc := "(LJoinedTrees$Replica;)V" } : Jvm.MethodName)) ∈ gb := gm_3 166 rfl rfl
theorem kw_647 : (Jvm.Cond.code ({ cls := "JoinedTrees", name := "needAll", desc := "(LJoinedTrees$Replica;)V" } : Jvm.MethodName) prog_1_method_37_code (2 : Nat) (Option.none : Option Jvm.ClassFile.FieldType)) ∈ gb := gm_3 167 rfl rfl
theorem kw_648 : (Jvm.Cond.classLink "JoinedTrees" (223 : Nat) "java/lang/IllegalStateException") ∈ gb := gm_3 168 rfl rfl
theorem kw_649 : (Jvm.Cond.instantiable "java/lang/IllegalStateException" (6 : Nat)) ∈ gb := gm_3 169 rfl rfl
theorem kw_651 : (Jvm.Cond.selects "java/lang/IllegalStateException" ({ cls := "java/lang/Throwable", name := "fillInStackTrace", desc := "(I)Ljava/lang/Throwable;" } : Jvm.MethodName) ({ cls := "java/lang/Throwable", name := "fillInStackTrace", desc := "(I)Ljava/lang/Throwable;" } : Jvm.MethodName)) ∈ gb := gm_3 171 rfl rfl
theorem kw_652 : (Jvm.Cond.lays "java/lang/IllegalStateException" "java/lang/Throwable" "cause" "Ljava/lang/Throwable;") ∈ gb := gm_3 172 rfl rfl
theorem kw_653 : (Jvm.Cond.lays "java/lang/IllegalStateException" "java/lang/Throwable" "stackTrace" "[Ljava/lang/StackTraceElement;") ∈ gb := gm_3 173 rfl rfl
theorem kw_654 : (Jvm.Cond.lays "java/lang/IllegalStateException" "java/lang/Throwable" "suppressedExceptions" "Ljava/util/List;") ∈ gb := gm_3 174 rfl rfl
theorem kw_655 : (Jvm.Cond.lays "java/lang/IllegalStateException" "java/lang/Throwable" "detailMessage" "Ljava/lang/String;") ∈ gb := gm_3 175 rfl rfl
theorem kw_656 : (Jvm.Cond.lays "java/lang/IllegalStateException" "java/lang/Throwable" "backtrace" "Ljava/lang/Object;") ∈ gb := gm_3 176 rfl rfl
theorem kw_657 : (Jvm.Cond.methodLink "JoinedTrees" (225 : Nat) ({ cls := "java/lang/IllegalStateException", name := "<init>", desc := "()V" } : Jvm.MethodName)) ∈ gb := gm_3 177 rfl rfl
theorem kw_658 : (Jvm.Cond.instanceMethod ({ cls := "java/lang/IllegalStateException", name := "<init>", desc := "()V" } : Jvm.MethodName)) ∈ gb := gm_3 178 rfl rfl
theorem kw_659 : (Jvm.Cond.code ({ cls := "java/lang/IllegalStateException", name := "<init>", desc := "()V" } : Jvm.MethodName) prog_19_method_1_code (1 : Nat) (Option.none : Option Jvm.ClassFile.FieldType)) ∈ gb := gm_3 179 rfl rfl
theorem kw_660 : (Jvm.Cond.methodLink "java/lang/IllegalStateException" (1 : Nat) ({ cls := "java/lang/RuntimeException", name := "<init>", desc := "()V" } : Jvm.MethodName)) ∈ gb := gm_3 180 rfl rfl
theorem kw_661 : (Jvm.Cond.lays "java/lang/IllegalStateException" "java/lang/Throwable" "depth" "I") ∈ gb := gm_3 181 rfl rfl
theorem kw_662 : (Jvm.Cond.superclass "java/lang/IllegalStateException" "java/lang/RuntimeException") ∈ gb := gm_3 182 rfl rfl
theorem kw_663 : (Jvm.Cond.methodLink "JoinedTrees" (124 : Nat) ({ cls := "JoinedTrees", name := "stringLength", desc := "(ILJoinedTrees$Row;)I" } : Jvm.MethodName)) ∈ gb := gm_3 183 rfl rfl
theorem kw_664 : (Jvm.Cond.static ({ cls := "JoinedTrees", name := "stringLength", desc := "(ILJoinedTrees$Row;)I" } : Jvm.MethodName)) ∈ gb := gm_3 184 rfl rfl
theorem kw_665 : (Jvm.Cond.code ({ cls := "JoinedTrees", name := "stringLength", desc := "(ILJoinedTrees$Row;)I" } : Jvm.MethodName) prog_1_method_40_code (2 : Nat) (Option.some Jvm.ClassFile.FieldType.int)) ∈ gb := gm_3 185 rfl rfl
theorem kw_666 : (Jvm.Cond.methodLink "JoinedTrees" (128 : Nat) ({ cls := "JoinedTrees", name := "needRoom", desc := "(II)V" } : Jvm.MethodName)) ∈ gb := gm_3 186 rfl rfl
theorem kw_668 : (Jvm.Cond.instanceMethod ({ cls := "JoinedTrees", name := "needRoom", desc := "(II)V" } : Jvm.MethodName)) ∈ gb := gm_3 188 rfl rfl
theorem kw_669 : (Jvm.Cond.code ({ cls := "JoinedTrees", name := "needRoom", desc := "(II)V" } : Jvm.MethodName) prog_1_method_39_code (3 : Nat) (Option.none : Option Jvm.ClassFile.FieldType)) ∈ gb := gm_3 189 rfl rfl
theorem kw_670 : (Jvm.Cond.methodLink "JoinedTrees" (132 : Nat) ({ cls := "JoinedTrees", name := "writeAtKey", desc := "(LJoinedTrees$Replica;LJoinedTrees$Op;LJoinedTrees$Row;IIIJ)LJoinedTrees$Op;" } : Jvm.MethodName)) ∈ gb := gm_3 190 rfl rfl
theorem kw_672 : (Jvm.Cond.instanceMethod ({ cls := "JoinedTrees", name := "writeAtKey", desc := "(LJoinedTrees$Replica;LJoinedTrees$Op;LJoinedTrees$Row;IIIJ)LJoinedTrees$Op;" } : Jvm.MethodName)) ∈ gb := gm_3 192 rfl rfl
theorem kw_673 : (Jvm.Cond.code ({ cls := "JoinedTrees", name := "writeAtKey", desc := "(LJoinedTrees$Replica;LJoinedTrees$Op;LJoinedTrees$Row;IIIJ)LJoinedTrees$Op;" } : Jvm.MethodName) prog_1_method_46_code (11 : Nat) (Option.some (Jvm.ClassFile.FieldType.object "JoinedTrees$Op"))) ∈ gb := gm_3 193 rfl rfl
theorem kw_674 : (Jvm.Cond.methodLink "JoinedTrees" (404 : Nat) ({ cls := "JoinedTrees$Store", name := "spotWith", desc := "(LJoinedTrees$Op;LJoinedTrees$Row;II)LJoinedTrees$Spot;" } : Jvm.MethodName)) ∈ gb := gm_3 194 rfl rfl
theorem kw_675 : (Jvm.Cond.instanceMethod ({ cls := "JoinedTrees$Store", name := "spotWith", desc := "(LJoinedTrees$Op;LJoinedTrees$Row;II)LJoinedTrees$Spot;" } : Jvm.MethodName)) ∈ gb := gm_3 195 rfl rfl
theorem kw_676 : (Jvm.Cond.selects "JoinedTrees$Store" ({ cls := "JoinedTrees$Store", name := "spotWith", desc := "(LJoinedTrees$Op;LJoinedTrees$Row;II)LJoinedTrees$Spot;" } : Jvm.MethodName) ({ cls := "JoinedTrees$Store", name := "spotWith", desc := "(LJoinedTrees$Op;LJoinedTrees$Row;II)LJoinedTrees$Spot;" } : Jvm.MethodName)) ∈ gb := gm_3 196 rfl rfl
theorem kw_677 : (Jvm.Cond.code ({ cls := "JoinedTrees$Store", name := "spotWith", desc := "(LJoinedTrees$Op;LJoinedTrees$Row;II)LJoinedTrees$Spot;" } : Jvm.MethodName) prog_10_method_7_code (7 : Nat) (Option.some (Jvm.ClassFile.FieldType.object "JoinedTrees$Spot"))) ∈ gb := gm_3 197 rfl rfl
theorem kw_678 : (Jvm.Cond.methodLink "JoinedTrees$Store" (96 : Nat) ({ cls := "JoinedTrees$Store", name := "compareKey", desc := "(LJoinedTrees$Spot;LJoinedTrees$Row;II)I" } : Jvm.MethodName)) ∈ gb := gm_3 198 rfl rfl
theorem kw_679 : (Jvm.Cond.instanceMethod ({ cls := "JoinedTrees$Store", name := "compareKey", desc := "(LJoinedTrees$Spot;LJoinedTrees$Row;II)I" } : Jvm.MethodName)) ∈ gb := gm_3 199 rfl rfl
theorem kw_680 : (Jvm.Cond.selects "JoinedTrees$Store" ({ cls := "JoinedTrees$Store", name := "compareKey", desc := "(LJoinedTrees$Spot;LJoinedTrees$Row;II)I" } : Jvm.MethodName) ({ cls := "JoinedTrees$Store", name := "compareKey", desc := "(LJoinedTrees$Spot;LJoinedTrees$Row;II)I" } : Jvm.MethodName)) ∈ gb := gm_3 200 rfl rfl
theorem kw_681 : (Jvm.Cond.code ({ cls := "JoinedTrees$Store", name := "compareKey", desc := "(LJoinedTrees$Spot;LJoinedTrees$Row;II)I" } : Jvm.MethodName) prog_10_method_6_code (5 : Nat) (Option.some Jvm.ClassFile.FieldType.int)) ∈ gb := gm_3 201 rfl rfl
theorem kw_682 : (Jvm.Cond.methodLink "JoinedTrees$Store" (88 : Nat) ({ cls := "JoinedTrees$Row", name := "compareWith", desc := "(IILJoinedTrees$Row;II)I" } : Jvm.MethodName)) ∈ gb := gm_3 202 rfl rfl
theorem kw_683 : (Jvm.Cond.instanceMethod ({ cls := "JoinedTrees$Row", name := "compareWith", desc := "(IILJoinedTrees$Row;II)I" } : Jvm.MethodName)) ∈ gb := gm_3 203 rfl rfl
theorem kw_684 : (Jvm.Cond.selects "JoinedTrees$Row" ({ cls := "JoinedTrees$Row", name := "compareWith", desc := "(IILJoinedTrees$Row;II)I" } : Jvm.MethodName) ({ cls := "JoinedTrees$Row", name := "compareWith", desc := "(IILJoinedTrees$Row;II)I" } : Jvm.MethodName)) ∈ gb := gm_3 204 rfl rfl
theorem kw_685 : (Jvm.Cond.code ({ cls := "JoinedTrees$Row", name := "compareWith", desc := "(IILJoinedTrees$Row;II)I" } : Jvm.MethodName) prog_7_method_7_code (8 : Nat) (Option.some Jvm.ClassFile.FieldType.int)) ∈ gb := gm_3 205 rfl rfl
theorem kw_686 : (Jvm.Cond.methodLink "JoinedTrees$Row" (25 : Nat) ({ cls := "JoinedTrees$Row", name := "at", desc := "(I)I" } : Jvm.MethodName)) ∈ gb := gm_3 206 rfl rfl
theorem kw_687 : (Jvm.Cond.instanceMethod ({ cls := "JoinedTrees$Row", name := "at", desc := "(I)I" } : Jvm.MethodName)) ∈ gb := gm_3 207 rfl rfl
theorem kw_688 : (Jvm.Cond.selects "JoinedTrees$Row" ({ cls := "JoinedTrees$Row", name := "at", desc := "(I)I" } : Jvm.MethodName) ({ cls := "JoinedTrees$Row", name := "at", desc := "(I)I" } : Jvm.MethodName)) ∈ gb := gm_3 208 rfl rfl
theorem kw_689 : (Jvm.Cond.code ({ cls := "JoinedTrees$Row", name := "at", desc := "(I)I" } : Jvm.MethodName) prog_7_method_6_code (2 : Nat) (Option.some Jvm.ClassFile.FieldType.int)) ∈ gb := gm_3 209 rfl rfl
theorem kw_690 : (Jvm.Cond.methodLink "JoinedTrees" (156 : Nat) ({ cls := "JoinedTrees", name := "writeOn", desc := "(LJoinedTrees$Replica;LJoinedTrees$Spot;IJ)LJoinedTrees$Op;" } : Jvm.MethodName)) ∈ gb := gm_3 210 rfl rfl
theorem kw_692 : (Jvm.Cond.instanceMethod ({ cls := "JoinedTrees", name := "writeOn", desc := "(LJoinedTrees$Replica;LJoinedTrees$Spot;IJ)LJoinedTrees$Op;" } : Jvm.MethodName)) ∈ gb := gm_3 212 rfl rfl
theorem kw_693 : (Jvm.Cond.code ({ cls := "JoinedTrees", name := "writeOn", desc := "(LJoinedTrees$Replica;LJoinedTrees$Spot;IJ)LJoinedTrees$Op;" } : Jvm.MethodName) prog_1_method_47_code (8 : Nat) (Option.some (Jvm.ClassFile.FieldType.object "JoinedTrees$Op"))) ∈ gb := gm_3 213 rfl rfl
theorem kw_694 : (Jvm.Cond.methodLink "JoinedTrees" (196 : Nat) ({ cls := "JoinedTrees$View", name := "gather", desc := "(LJoinedTrees$Spot;)V" } : Jvm.MethodName)) ∈ gb := gm_3 214 rfl rfl
theorem kw_695 : (Jvm.Cond.instanceMethod ({ cls := "JoinedTrees$View", name := "gather", desc := "(LJoinedTrees$Spot;)V" } : Jvm.MethodName)) ∈ gb := gm_3 215 rfl rfl
theorem kw_696 : (Jvm.Cond.selects "JoinedTrees$View" ({ cls := "JoinedTrees$View", name := "gather", desc := "(LJoinedTrees$Spot;)V" } : Jvm.MethodName) ({ cls := "JoinedTrees$View", name := "gather", desc := "(LJoinedTrees$Spot;)V" } : Jvm.MethodName)) ∈ gb := gm_3 216 rfl rfl
theorem kw_697 : (Jvm.Cond.code ({ cls := "JoinedTrees$View", name := "gather", desc := "(LJoinedTrees$Spot;)V" } : Jvm.MethodName) prog_12_method_5_code (3 : Nat) (Option.none : Option Jvm.ClassFile.FieldType)) ∈ gb := gm_3 217 rfl rfl
theorem kw_698 : (Jvm.Cond.methodLink "JoinedTrees$View" (80 : Nat) ({ cls := "JoinedTrees$View", name := "strikePreds", desc := "(LJoinedTrees$Op;)V" } : Jvm.MethodName)) ∈ gb := gm_3 218 rfl rfl
theorem kw_699 : (Jvm.Cond.instanceMethod ({ cls := "JoinedTrees$View", name := "strikePreds", desc := "(LJoinedTrees$Op;)V" } : Jvm.MethodName)) ∈ gb := gm_3 219 rfl rfl
theorem kw_700 : (Jvm.Cond.selects "JoinedTrees$View" ({ cls := "JoinedTrees$View", name := "strikePreds", desc := "(LJoinedTrees$Op;)V" } : Jvm.MethodName) ({ cls := "JoinedTrees$View", name := "strikePreds", desc := "(LJoinedTrees$Op;)V" } : Jvm.MethodName)) ∈ gb := gm_3 220 rfl rfl
theorem kw_701 : (Jvm.Cond.code ({ cls := "JoinedTrees$View", name := "strikePreds", desc := "(LJoinedTrees$Op;)V" } : Jvm.MethodName) prog_12_method_6_code (3 : Nat) (Option.none : Option Jvm.ClassFile.FieldType)) ∈ gb := gm_3 221 rfl rfl
theorem kw_702 : (Jvm.Cond.methodLink "JoinedTrees" (199 : Nat) ({ cls := "JoinedTrees$View", name := "keepCounters", desc := "()V" } : Jvm.MethodName)) ∈ gb := gm_3 222 rfl rfl
theorem kw_703 : (Jvm.Cond.instanceMethod ({ cls := "JoinedTrees$View", name := "keepCounters", desc := "()V" } : Jvm.MethodName)) ∈ gb := gm_3 223 rfl rfl
theorem kw_704 : (Jvm.Cond.selects "JoinedTrees$View" ({ cls := "JoinedTrees$View", name := "keepCounters", desc := "()V" } : Jvm.MethodName) ({ cls := "JoinedTrees$View", name := "keepCounters", desc := "()V" } : Jvm.MethodName)) ∈ gb := gm_3 224 rfl rfl
theorem kw_705 : (Jvm.Cond.code ({ cls := "JoinedTrees$View", name := "keepCounters", desc := "()V" } : Jvm.MethodName) prog_12_method_7_code (3 : Nat) (Option.none : Option Jvm.ClassFile.FieldType)) ∈ gb := gm_3 225 rfl rfl
theorem kw_706 : (Jvm.Cond.methodLink "JoinedTrees" (411 : Nat) ({ cls := "JoinedTrees$Store", name := "make", desc := "(LJoinedTrees$Replica;LJoinedTrees$Op;IJ)LJoinedTrees$Op;" } : Jvm.MethodName)) ∈ gb := gm_3 226 rfl rfl
theorem kw_707 : (Jvm.Cond.instanceMethod ({ cls := "JoinedTrees$Store", name := "make", desc := "(LJoinedTrees$Replica;LJoinedTrees$Op;IJ)LJoinedTrees$Op;" } : Jvm.MethodName)) ∈ gb := gm_3 227 rfl rfl
theorem kw_708 : (Jvm.Cond.selects "JoinedTrees$Store" ({ cls := "JoinedTrees$Store", name := "make", desc := "(LJoinedTrees$Replica;LJoinedTrees$Op;IJ)LJoinedTrees$Op;" } : Jvm.MethodName) ({ cls := "JoinedTrees$Store", name := "make", desc := "(LJoinedTrees$Replica;LJoinedTrees$Op;IJ)LJoinedTrees$Op;" } : Jvm.MethodName)) ∈ gb := gm_3 228 rfl rfl
theorem kw_709 : (Jvm.Cond.code ({ cls := "JoinedTrees$Store", name := "make", desc := "(LJoinedTrees$Replica;LJoinedTrees$Op;IJ)LJoinedTrees$Op;" } : Jvm.MethodName) prog_10_method_2_code (7 : Nat) (Option.some (Jvm.ClassFile.FieldType.object "JoinedTrees$Op"))) ∈ gb := gm_3 229 rfl rfl
theorem kw_710 : (Jvm.Cond.methodLink "JoinedTrees" (423 : Nat) ({ cls := "JoinedTrees$View", name := "rising", desc := "()[LJoinedTrees$Op;" } : Jvm.MethodName)) ∈ gb := gm_3 230 rfl rfl
theorem kw_711 : (Jvm.Cond.instanceMethod ({ cls := "JoinedTrees$View", name := "rising", desc := "()[LJoinedTrees$Op;" } : Jvm.MethodName)) ∈ gb := gm_3 231 rfl rfl
theorem kw_712 : (Jvm.Cond.selects "JoinedTrees$View" ({ cls := "JoinedTrees$View", name := "rising", desc := "()[LJoinedTrees$Op;" } : Jvm.MethodName) ({ cls := "JoinedTrees$View", name := "rising", desc := "()[LJoinedTrees$Op;" } : Jvm.MethodName)) ∈ gb := gm_3 232 rfl rfl
theorem kw_713 : (Jvm.Cond.code ({ cls := "JoinedTrees$View", name := "rising", desc := "()[LJoinedTrees$Op;" } : Jvm.MethodName) prog_12_method_8_code (3 : Nat) (Option.some (Jvm.ClassFile.FieldType.array (Jvm.ClassFile.FieldType.object "JoinedTrees$Op")))) ∈ gb := gm_3 233 rfl rfl
theorem kw_714 : (Jvm.Cond.methodLink "JoinedTrees" (415 : Nat) ({ cls := "JoinedTrees$Store", name := "keepKey", desc := "(LJoinedTrees$Op;LJoinedTrees$Row;II)V" } : Jvm.MethodName)) ∈ gb := gm_3 234 rfl rfl
theorem kw_715 : (Jvm.Cond.instanceMethod ({ cls := "JoinedTrees$Store", name := "keepKey", desc := "(LJoinedTrees$Op;LJoinedTrees$Row;II)V" } : Jvm.MethodName)) ∈ gb := gm_3 235 rfl rfl
theorem kw_716 : (Jvm.Cond.selects "JoinedTrees$Store" ({ cls := "JoinedTrees$Store", name := "keepKey", desc := "(LJoinedTrees$Op;LJoinedTrees$Row;II)V" } : Jvm.MethodName) ({ cls := "JoinedTrees$Store", name := "keepKey", desc := "(LJoinedTrees$Op;LJoinedTrees$Row;II)V" } : Jvm.MethodName)) ∈ gb := gm_3 236 rfl rfl
theorem kw_717 : (Jvm.Cond.code ({ cls := "JoinedTrees$Store", name := "keepKey", desc := "(LJoinedTrees$Op;LJoinedTrees$Row;II)V" } : Jvm.MethodName) prog_10_method_4_code (5 : Nat) (Option.none : Option Jvm.ClassFile.FieldType)) ∈ gb := gm_3 237 rfl rfl
theorem kw_718 : (Jvm.Cond.methodLink "JoinedTrees$Store" (73 : Nat) ({ cls := "JoinedTrees$Row", name := "writeAll", desc := "(LJoinedTrees$Row;II)V" } : Jvm.MethodName)) ∈ gb := gm_3 238 rfl rfl
theorem kw_719 : (Jvm.Cond.instanceMethod ({ cls := "JoinedTrees$Row", name := "writeAll", desc := "(LJoinedTrees$Row;II)V" } : Jvm.MethodName)) ∈ gb := gm_3 239 rfl rfl
theorem kw_720 : (Jvm.Cond.selects "JoinedTrees$Row" ({ cls := "JoinedTrees$Row", name := "writeAll", desc := "(LJoinedTrees$Row;II)V" } : Jvm.MethodName) ({ cls := "JoinedTrees$Row", name := "writeAll", desc := "(LJoinedTrees$Row;II)V" } : Jvm.MethodName)) ∈ gb := gm_4 0 rfl rfl
theorem kw_721 : (Jvm.Cond.code ({ cls := "JoinedTrees$Row", name := "writeAll", desc := "(LJoinedTrees$Row;II)V" } : Jvm.MethodName) prog_7_method_5_code (5 : Nat) (Option.none : Option Jvm.ClassFile.FieldType)) ∈ gb := gm_4 1 rfl rfl
theorem kw_722 : (Jvm.Cond.methodLink "JoinedTrees" (430 : Nat) ({ cls := "JoinedTrees$Spot", name := "link", desc := "(LJoinedTrees$Op;)V" } : Jvm.MethodName)) ∈ gb := gm_4 2 rfl rfl
theorem kw_723 : (Jvm.Cond.instanceMethod ({ cls := "JoinedTrees$Spot", name := "link", desc := "(LJoinedTrees$Op;)V" } : Jvm.MethodName)) ∈ gb := gm_4 3 rfl rfl
theorem kw_724 : (Jvm.Cond.selects "JoinedTrees$Spot" ({ cls := "JoinedTrees$Spot", name := "link", desc := "(LJoinedTrees$Op;)V" } : Jvm.MethodName) ({ cls := "JoinedTrees$Spot", name := "link", desc := "(LJoinedTrees$Op;)V" } : Jvm.MethodName)) ∈ gb := gm_4 4 rfl rfl
theorem kw_725 : (Jvm.Cond.code ({ cls := "JoinedTrees$Spot", name := "link", desc := "(LJoinedTrees$Op;)V" } : Jvm.MethodName) prog_9_method_2_code (3 : Nat) (Option.none : Option Jvm.ClassFile.FieldType)) ∈ gb := gm_4 5 rfl rfl
theorem kw_726 : (Jvm.Cond.methodLink "JoinedTrees" (419 : Nat) ({ cls := "JoinedTrees$Store", name := "openKey", desc := "(LJoinedTrees$Op;)V" } : Jvm.MethodName)) ∈ gb := gm_4 6 rfl rfl
theorem kw_727 : (Jvm.Cond.instanceMethod ({ cls := "JoinedTrees$Store", name := "openKey", desc := "(LJoinedTrees$Op;)V" } : Jvm.MethodName)) ∈ gb := gm_4 7 rfl rfl
theorem kw_728 : (Jvm.Cond.selects "JoinedTrees$Store" ({ cls := "JoinedTrees$Store", name := "openKey", desc := "(LJoinedTrees$Op;)V" } : Jvm.MethodName) ({ cls := "JoinedTrees$Store", name := "openKey", desc := "(LJoinedTrees$Op;)V" } : Jvm.MethodName)) ∈ gb := gm_4 8 rfl rfl
theorem kw_729 : (Jvm.Cond.code ({ cls := "JoinedTrees$Store", name := "openKey", desc := "(LJoinedTrees$Op;)V" } : Jvm.MethodName) prog_10_method_8_code (4 : Nat) (Option.none : Option Jvm.ClassFile.FieldType)) ∈ gb := gm_4 9 rfl rfl
theorem kw_730 : (Jvm.Cond.methodLink "JoinedTrees$Store" (106 : Nat) ({ cls := "JoinedTrees$Store", name := "openBetween", desc := "(LJoinedTrees$Op;LJoinedTrees$Spot;LJoinedTrees$Spot;)V" } : Jvm.MethodName)) ∈ gb := gm_4 10 rfl rfl
theorem kw_731 : (Jvm.Cond.instanceMethod ({ cls := "JoinedTrees$Store", name := "openBetween", desc := "(LJoinedTrees$Op;LJoinedTrees$Spot;LJoinedTrees$Spot;)V" } : Jvm.MethodName)) ∈ gb := gm_4 11 rfl rfl
theorem kw_732 : (Jvm.Cond.selects "JoinedTrees$Store" ({ cls := "JoinedTrees$Store", name := "openBetween", desc := "(LJoinedTrees$Op;LJoinedTrees$Spot;LJoinedTrees$Spot;)V" } : Jvm.MethodName) ({ cls := "JoinedTrees$Store", name := "openBetween", desc := "(LJoinedTrees$Op;LJoinedTrees$Spot;LJoinedTrees$Spot;)V" } : Jvm.MethodName)) ∈ gb := gm_4 12 rfl rfl
theorem kw_733 : (Jvm.Cond.code ({ cls := "JoinedTrees$Store", name := "openBetween", desc := "(LJoinedTrees$Op;LJoinedTrees$Spot;LJoinedTrees$Spot;)V" } : Jvm.MethodName) prog_10_method_10_code (5 : Nat) (Option.none : Option Jvm.ClassFile.FieldType)) ∈ gb := gm_4 13 rfl rfl
theorem kw_734 : (Jvm.Cond.classLink "JoinedTrees$Store" (84 : Nat) "JoinedTrees$Spot") ∈ gb := gm_4 14 rfl rfl
theorem kw_735 : (Jvm.Cond.instantiable "JoinedTrees$Spot" (3 : Nat)) ∈ gb := gm_4 15 rfl rfl
theorem kw_736 : (Jvm.Cond.methodLink "JoinedTrees$Store" (120 : Nat) ({ cls := "JoinedTrees$Spot", name := "<init>", desc := "(LJoinedTrees$Op;)V" } : Jvm.MethodName)) ∈ gb := gm_4 16 rfl rfl
theorem kw_737 : (Jvm.Cond.instanceMethod ({ cls := "JoinedTrees$Spot", name := "<init>", desc := "(LJoinedTrees$Op;)V" } : Jvm.MethodName)) ∈ gb := gm_4 17 rfl rfl
theorem kw_738 : (Jvm.Cond.code ({ cls := "JoinedTrees$Spot", name := "<init>", desc := "(LJoinedTrees$Op;)V" } : Jvm.MethodName) prog_9_method_1_code (2 : Nat) (Option.none : Option Jvm.ClassFile.FieldType)) ∈ gb := gm_4 18 rfl rfl
theorem kw_739 : (Jvm.Cond.methodLink "JoinedTrees$Spot" (1 : Nat) ({ cls := "java/lang/Object", name := "<init>", desc := "()V" } : Jvm.MethodName)) ∈ gb := gm_4 19 rfl rfl
theorem kw_740 : (Jvm.Cond.fieldLink "JoinedTrees$Spot" (7 : Nat) "JoinedTrees$Spot" "maker" "LJoinedTrees$Op;") ∈ gb := gm_4 20 rfl rfl
theorem kw_741 : (Jvm.Cond.fieldLink "JoinedTrees$Store" (83 : Nat) "JoinedTrees$Spot" "maker" "LJoinedTrees$Op;") ∈ gb := gm_4 21 rfl rfl
theorem kw_742 : (Jvm.Cond.fieldLink "JoinedTrees$Saver" (155 : Nat) "JoinedTrees$Spot" "maker" "LJoinedTrees$Op;") ∈ gb := gm_4 22 rfl rfl
theorem kw_743 : (Jvm.Cond.fieldLink "JoinedTrees" (278 : Nat) "JoinedTrees$Spot" "maker" "LJoinedTrees$Op;") ∈ gb := gm_4 23 rfl rfl
theorem kw_744 : (Jvm.Cond.fieldLink "JoinedTrees$Spot" (19 : Nat) "JoinedTrees$Spot" "ops" "LJoinedTrees$Op;") ∈ gb := gm_4 24 rfl rfl
theorem kw_745 : (Jvm.Cond.fieldLink "JoinedTrees$View" (72 : Nat) "JoinedTrees$Spot" "ops" "LJoinedTrees$Op;") ∈ gb := gm_4 25 rfl rfl
theorem kw_746 : (Jvm.Cond.fieldLink "JoinedTrees$JsonWriter" (58 : Nat) "JoinedTrees$Spot" "next" "LJoinedTrees$Spot;") ∈ gb := gm_4 26 rfl rfl
theorem kw_747 : (Jvm.Cond.fieldLink "JoinedTrees$Store" (100 : Nat) "JoinedTrees$Spot" "next" "LJoinedTrees$Spot;") ∈ gb := gm_4 27 rfl rfl
theorem kw_748 : (Jvm.Cond.fieldLink "JoinedTrees$View" (119 : Nat) "JoinedTrees$Spot" "next" "LJoinedTrees$Spot;") ∈ gb := gm_4 28 rfl rfl
theorem kw_749 : (Jvm.Cond.fieldLink "JoinedTrees" (440 : Nat) "JoinedTrees$Spot" "next" "LJoinedTrees$Spot;") ∈ gb := gm_4 29 rfl rfl
theorem kw_750 : (Jvm.Cond.laysFinal "JoinedTrees$Spot" "JoinedTrees$Spot" "maker" "LJoinedTrees$Op;") ∈ gb := gm_4 30 rfl rfl
theorem kw_751 : (Jvm.Cond.soleField "JoinedTrees$Spot" "maker") ∈ gb := gm_4 31 rfl rfl
theorem kw_752 : (Jvm.Cond.lays "JoinedTrees$Spot" "JoinedTrees$Spot" "ops" "LJoinedTrees$Op;") ∈ gb := gm_4 32 rfl rfl
theorem kw_753 : (Jvm.Cond.soleField "JoinedTrees$Spot" "ops") ∈ gb := gm_4 33 rfl rfl
theorem kw_754 : (Jvm.Cond.lays "JoinedTrees$Spot" "JoinedTrees$Spot" "next" "LJoinedTrees$Spot;") ∈ gb := gm_4 34 rfl rfl
theorem kw_755 : (Jvm.Cond.soleField "JoinedTrees$Spot" "next") ∈ gb := gm_4 35 rfl rfl
theorem kw_756 : (Jvm.Cond.superclass "JoinedTrees$Spot" "java/lang/Object") ∈ gb := gm_4 36 rfl rfl
theorem kw_757 : (Jvm.Cond.methodLink "JoinedTrees$Store" (123 : Nat) ({ cls := "JoinedTrees$Spot", name := "link", desc := "(LJoinedTrees$Op;)V" } : Jvm.MethodName)) ∈ gb := gm_4 37 rfl rfl
theorem kw_758 : (Jvm.Cond.methodLink "JoinedTrees" (136 : Nat) ({ cls := "JoinedTrees", name := "giveString", desc := "(LJoinedTrees$Op;LJoinedTrees$Row;)V" } : Jvm.MethodName)) ∈ gb := gm_4 38 rfl rfl
theorem kw_760 : (Jvm.Cond.instanceMethod ({ cls := "JoinedTrees", name := "giveString", desc := "(LJoinedTrees$Op;LJoinedTrees$Row;)V" } : Jvm.MethodName)) ∈ gb := gm_4 40 rfl rfl
theorem kw_761 : (Jvm.Cond.code ({ cls := "JoinedTrees", name := "giveString", desc := "(LJoinedTrees$Op;LJoinedTrees$Row;)V" } : Jvm.MethodName) prog_1_method_49_code (3 : Nat) (Option.none : Option Jvm.ClassFile.FieldType)) ∈ gb := gm_4 41 rfl rfl
theorem kw_762 : (Jvm.Cond.methodLink "JoinedTrees" (437 : Nat) ({ cls := "JoinedTrees$Store", name := "keepString", desc := "(LJoinedTrees$Op;LJoinedTrees$Row;II)V" } : Jvm.MethodName)) ∈ gb := gm_4 42 rfl rfl
theorem kw_763 : (Jvm.Cond.instanceMethod ({ cls := "JoinedTrees$Store", name := "keepString", desc := "(LJoinedTrees$Op;LJoinedTrees$Row;II)V" } : Jvm.MethodName)) ∈ gb := gm_4 43 rfl rfl
theorem kw_764 : (Jvm.Cond.selects "JoinedTrees$Store" ({ cls := "JoinedTrees$Store", name := "keepString", desc := "(LJoinedTrees$Op;LJoinedTrees$Row;II)V" } : Jvm.MethodName) ({ cls := "JoinedTrees$Store", name := "keepString", desc := "(LJoinedTrees$Op;LJoinedTrees$Row;II)V" } : Jvm.MethodName)) ∈ gb := gm_4 44 rfl rfl
theorem kw_765 : (Jvm.Cond.code ({ cls := "JoinedTrees$Store", name := "keepString", desc := "(LJoinedTrees$Op;LJoinedTrees$Row;II)V" } : Jvm.MethodName) prog_10_method_5_code (5 : Nat) (Option.none : Option Jvm.ClassFile.FieldType)) ∈ gb := gm_4 45 rfl rfl
theorem kw_766 : (Jvm.Cond.methodLink "JoinedTreesLaw" (134 : Nat) ({ cls := "JoinedTreesLaw", name := "put", desc := "(LJoinedTrees;IIIIJ[J)I" } : Jvm.MethodName)) ∈ gb := gm_4 46 rfl rfl
theorem kw_767 : (Jvm.Cond.static ({ cls := "JoinedTreesLaw", name := "put", desc := "(LJoinedTrees;IIIIJ[J)I" } : Jvm.MethodName)) ∈ gb := gm_4 47 rfl rfl
theorem kw_768 : (Jvm.Cond.codeWith ({ cls := "JoinedTreesLaw", name := "put", desc := "(LJoinedTrees;IIIIJ[J)I" } : Jvm.MethodName) method_6_code (9 : Nat) (Option.some Jvm.ClassFile.FieldType.int) [((0 : Nat), (16 : Nat), (19 : Nat), (19 : Nat)), ((0 : Nat), (16 : Nat), (23 : Nat), (25 : Nat)), ((0 : Nat), (16 : Nat), (27 : Nat), (27 : Nat)), ((0 : Nat), (16 : Nat), (31 : Nat), (13 : Nat))]) ∈ gb := gm_4 48 rfl rfl
theorem kw_769 : (Jvm.Cond.methodLink "JoinedTreesLaw" (29 : Nat) ({ cls := "JoinedTrees", name := "put", desc := "(IIIIJ)I" } : Jvm.MethodName)) ∈ gb := gm_4 49 rfl rfl
theorem kw_770 : (Jvm.Cond.instanceMethod ({ cls := "JoinedTrees", name := "put", desc := "(IIIIJ)I" } : Jvm.MethodName)) ∈ gb := gm_4 50 rfl rfl
theorem kw_771 : (Jvm.Cond.selects "JoinedTrees" ({ cls := "JoinedTrees", name := "put", desc := "(IIIIJ)I" } : Jvm.MethodName) ({ cls := "JoinedTrees", name := "put", desc := "(IIIIJ)I" } : Jvm.MethodName)) ∈ gb := gm_4 51 rfl rfl
theorem kw_772 : (Jvm.Cond.code ({ cls := "JoinedTrees", name := "put", desc := "(IIIIJ)I" } : Jvm.MethodName) prog_1_method_5_code (11 : Nat) (Option.some Jvm.ClassFile.FieldType.int)) ∈ gb := gm_4 52 rfl rfl
theorem kw_773 : (Jvm.Cond.methodLink "JoinedTrees" (145 : Nat) ({ cls := "JoinedTrees", name := "listAt", desc := "(I)LJoinedTrees$Op;" } : Jvm.MethodName)) ∈ gb := gm_4 53 rfl rfl
theorem kw_775 : (Jvm.Cond.instanceMethod ({ cls := "JoinedTrees", name := "listAt", desc := "(I)LJoinedTrees$Op;" } : Jvm.MethodName)) ∈ gb := gm_4 55 rfl rfl
theorem kw_776 : (Jvm.Cond.code ({ cls := "JoinedTrees", name := "listAt", desc := "(I)LJoinedTrees$Op;" } : Jvm.MethodName) prog_1_method_43_code (3 : Nat) (Option.some (Jvm.ClassFile.FieldType.object "JoinedTrees$Op"))) ∈ gb := gm_4 56 rfl rfl
theorem kw_777 : (Jvm.Cond.methodLink "JoinedTrees" (148 : Nat) ({ cls := "JoinedTrees$View", name := "spotAt", desc := "(LJoinedTrees$Op;I)LJoinedTrees$Spot;" } : Jvm.MethodName)) ∈ gb := gm_4 57 rfl rfl
theorem kw_778 : (Jvm.Cond.instanceMethod ({ cls := "JoinedTrees$View", name := "spotAt", desc := "(LJoinedTrees$Op;I)LJoinedTrees$Spot;" } : Jvm.MethodName)) ∈ gb := gm_4 58 rfl rfl
theorem kw_779 : (Jvm.Cond.selects "JoinedTrees$View" ({ cls := "JoinedTrees$View", name := "spotAt", desc := "(LJoinedTrees$Op;I)LJoinedTrees$Spot;" } : Jvm.MethodName) ({ cls := "JoinedTrees$View", name := "spotAt", desc := "(LJoinedTrees$Op;I)LJoinedTrees$Spot;" } : Jvm.MethodName)) ∈ gb := gm_4 59 rfl rfl
theorem kw_780 : (Jvm.Cond.code ({ cls := "JoinedTrees$View", name := "spotAt", desc := "(LJoinedTrees$Op;I)LJoinedTrees$Spot;" } : Jvm.MethodName) prog_12_method_13_code (5 : Nat) (Option.some (Jvm.ClassFile.FieldType.object "JoinedTrees$Spot"))) ∈ gb := gm_4 60 rfl rfl
theorem kw_781 : (Jvm.Cond.methodLink "JoinedTrees$View" (115 : Nat) ({ cls := "JoinedTrees$View", name := "top", desc := "(LJoinedTrees$Spot;)LJoinedTrees$Op;" } : Jvm.MethodName)) ∈ gb := gm_4 61 rfl rfl
theorem kw_782 : (Jvm.Cond.instanceMethod ({ cls := "JoinedTrees$View", name := "top", desc := "(LJoinedTrees$Spot;)LJoinedTrees$Op;" } : Jvm.MethodName)) ∈ gb := gm_4 62 rfl rfl
theorem kw_783 : (Jvm.Cond.selects "JoinedTrees$View" ({ cls := "JoinedTrees$View", name := "top", desc := "(LJoinedTrees$Spot;)LJoinedTrees$Op;" } : Jvm.MethodName) ({ cls := "JoinedTrees$View", name := "top", desc := "(LJoinedTrees$Spot;)LJoinedTrees$Op;" } : Jvm.MethodName)) ∈ gb := gm_4 63 rfl rfl
theorem kw_784 : (Jvm.Cond.code ({ cls := "JoinedTrees$View", name := "top", desc := "(LJoinedTrees$Spot;)LJoinedTrees$Op;" } : Jvm.MethodName) prog_12_method_9_code (2 : Nat) (Option.some (Jvm.ClassFile.FieldType.object "JoinedTrees$Op"))) ∈ gb := gm_4 64 rfl rfl
theorem kw_785 : (Jvm.Cond.methodLink "JoinedTrees$View" (93 : Nat) ({ cls := "JoinedTrees$View", name := "gather", desc := "(LJoinedTrees$Spot;)V" } : Jvm.MethodName)) ∈ gb := gm_4 65 rfl rfl
theorem kw_786 : (Jvm.Cond.methodLink "JoinedTrees" (152 : Nat) ({ cls := "JoinedTrees", name := "needSpot", desc := "(LJoinedTrees$Spot;)V" } : Jvm.MethodName)) ∈ gb := gm_4 66 rfl rfl
theorem kw_788 : (Jvm.Cond.instanceMethod ({ cls := "JoinedTrees", name := "needSpot", desc := "(LJoinedTrees$Spot;)V" } : Jvm.MethodName)) ∈ gb := gm_4 68 rfl rfl
theorem kw_789 : (Jvm.Cond.code ({ cls := "JoinedTrees", name := "needSpot", desc := "(LJoinedTrees$Spot;)V" } : Jvm.MethodName) prog_1_method_36_code (2 : Nat) (Option.none : Option Jvm.ClassFile.FieldType)) ∈ gb := gm_4 69 rfl rfl
theorem kw_790 : (Jvm.Cond.methodLink "JoinedTreesLaw" (138 : Nat) ({ cls := "JoinedTreesLaw", name := "insert", desc := "(LJoinedTrees;IIIIJ[J)I" } : Jvm.MethodName)) ∈ gb := gm_4 70 rfl rfl
theorem kw_791 : (Jvm.Cond.static ({ cls := "JoinedTreesLaw", name := "insert", desc := "(LJoinedTrees;IIIIJ[J)I" } : Jvm.MethodName)) ∈ gb := gm_4 71 rfl rfl
theorem kw_792 : (Jvm.Cond.codeWith ({ cls := "JoinedTreesLaw", name := "insert", desc := "(LJoinedTrees;IIIIJ[J)I" } : Jvm.MethodName) method_7_code (9 : Nat) (Option.some Jvm.ClassFile.FieldType.int) [((0 : Nat), (16 : Nat), (19 : Nat), (19 : Nat)), ((0 : Nat), (16 : Nat), (23 : Nat), (25 : Nat)), ((0 : Nat), (16 : Nat), (27 : Nat), (27 : Nat)), ((0 : Nat), (16 : Nat), (31 : Nat), (13 : Nat))]) ∈ gb := gm_4 72 rfl rfl
theorem kw_793 : (Jvm.Cond.methodLink "JoinedTreesLaw" (33 : Nat) ({ cls := "JoinedTrees", name := "insert", desc := "(IIIIJ)I" } : Jvm.MethodName)) ∈ gb := gm_4 73 rfl rfl
theorem kw_794 : (Jvm.Cond.instanceMethod ({ cls := "JoinedTrees", name := "insert", desc := "(IIIIJ)I" } : Jvm.MethodName)) ∈ gb := gm_4 74 rfl rfl
theorem kw_795 : (Jvm.Cond.selects "JoinedTrees" ({ cls := "JoinedTrees", name := "insert", desc := "(IIIIJ)I" } : Jvm.MethodName) ({ cls := "JoinedTrees", name := "insert", desc := "(IIIIJ)I" } : Jvm.MethodName)) ∈ gb := gm_4 75 rfl rfl
theorem kw_796 : (Jvm.Cond.code ({ cls := "JoinedTrees", name := "insert", desc := "(IIIIJ)I" } : Jvm.MethodName) prog_1_method_6_code (12 : Nat) (Option.some Jvm.ClassFile.FieldType.int)) ∈ gb := gm_4 76 rfl rfl
theorem kw_797 : (Jvm.Cond.methodLink "JoinedTrees" (160 : Nat) ({ cls := "JoinedTrees", name := "elementBefore", desc := "(LJoinedTrees$Op;I)LJoinedTrees$Op;" } : Jvm.MethodName)) ∈ gb := gm_4 77 rfl rfl
theorem kw_799 : (Jvm.Cond.instanceMethod ({ cls := "JoinedTrees", name := "elementBefore", desc := "(LJoinedTrees$Op;I)LJoinedTrees$Op;" } : Jvm.MethodName)) ∈ gb := gm_4 79 rfl rfl
theorem kw_800 : (Jvm.Cond.code ({ cls := "JoinedTrees", name := "elementBefore", desc := "(LJoinedTrees$Op;I)LJoinedTrees$Op;" } : Jvm.MethodName) prog_1_method_45_code (4 : Nat) (Option.some (Jvm.ClassFile.FieldType.object "JoinedTrees$Op"))) ∈ gb := gm_4 80 rfl rfl
theorem kw_801 : (Jvm.Cond.methodLink "JoinedTrees" (164 : Nat) ({ cls := "JoinedTrees", name := "writeBehind", desc := "(LJoinedTrees$Replica;LJoinedTrees$Op;LJoinedTrees$Op;IJ)LJoinedTrees$Op;" } : Jvm.MethodName)) ∈ gb := gm_4 81 rfl rfl
theorem kw_803 : (Jvm.Cond.instanceMethod ({ cls := "JoinedTrees", name := "writeBehind", desc := "(LJoinedTrees$Replica;LJoinedTrees$Op;LJoinedTrees$Op;IJ)LJoinedTrees$Op;" } : Jvm.MethodName)) ∈ gb := gm_4 83 rfl rfl
theorem kw_804 : (Jvm.Cond.code ({ cls := "JoinedTrees", name := "writeBehind", desc := "(LJoinedTrees$Replica;LJoinedTrees$Op;LJoinedTrees$Op;IJ)LJoinedTrees$Op;" } : Jvm.MethodName) prog_1_method_48_code (8 : Nat) (Option.some (Jvm.ClassFile.FieldType.object "JoinedTrees$Op"))) ∈ gb := gm_4 84 rfl rfl
theorem kw_805 : (Jvm.Cond.methodLink "JoinedTrees" (433 : Nat) ({ cls := "JoinedTrees$Store", name := "openElement", desc := "(LJoinedTrees$Op;LJoinedTrees$Op;)V" } : Jvm.MethodName)) ∈ gb := gm_4 85 rfl rfl
theorem kw_806 : (Jvm.Cond.instanceMethod ({ cls := "JoinedTrees$Store", name := "openElement", desc := "(LJoinedTrees$Op;LJoinedTrees$Op;)V" } : Jvm.MethodName)) ∈ gb := gm_4 86 rfl rfl
theorem kw_807 : (Jvm.Cond.selects "JoinedTrees$Store" ({ cls := "JoinedTrees$Store", name := "openElement", desc := "(LJoinedTrees$Op;LJoinedTrees$Op;)V" } : Jvm.MethodName) ({ cls := "JoinedTrees$Store", name := "openElement", desc := "(LJoinedTrees$Op;LJoinedTrees$Op;)V" } : Jvm.MethodName)) ∈ gb := gm_4 87 rfl rfl
theorem kw_808 : (Jvm.Cond.code ({ cls := "JoinedTrees$Store", name := "openElement", desc := "(LJoinedTrees$Op;LJoinedTrees$Op;)V" } : Jvm.MethodName) prog_10_method_9_code (5 : Nat) (Option.none : Option Jvm.ClassFile.FieldType)) ∈ gb := gm_4 88 rfl rfl
theorem kw_809 : (Jvm.Cond.methodLink "JoinedTreesLaw" (141 : Nat) ({ cls := "JoinedTreesLaw", name := "splice", desc := "(LJoinedTrees;IIII[J)I" } : Jvm.MethodName)) ∈ gb := gm_4 89 rfl rfl
theorem kw_810 : (Jvm.Cond.static ({ cls := "JoinedTreesLaw", name := "splice", desc := "(LJoinedTrees;IIII[J)I" } : Jvm.MethodName)) ∈ gb := gm_4 90 rfl rfl
theorem kw_811 : (Jvm.Cond.codeWith ({ cls := "JoinedTreesLaw", name := "splice", desc := "(LJoinedTrees;IIII[J)I" } : Jvm.MethodName) method_8_code (7 : Nat) (Option.some Jvm.ClassFile.FieldType.int) [((0 : Nat), (14 : Nat), (17 : Nat), (19 : Nat)), ((0 : Nat), (14 : Nat), (21 : Nat), (25 : Nat)), ((0 : Nat), (14 : Nat), (25 : Nat), (27 : Nat)), ((0 : Nat), (14 : Nat), (29 : Nat), (13 : Nat))]) ∈ gb := gm_4 91 rfl rfl
theorem kw_812 : (Jvm.Cond.methodLink "JoinedTreesLaw" (36 : Nat) ({ cls := "JoinedTrees", name := "splice", desc := "(IIII)I" } : Jvm.MethodName)) ∈ gb := gm_4 92 rfl rfl
theorem kw_813 : (Jvm.Cond.instanceMethod ({ cls := "JoinedTrees", name := "splice", desc := "(IIII)I" } : Jvm.MethodName)) ∈ gb := gm_4 93 rfl rfl
theorem kw_814 : (Jvm.Cond.selects "JoinedTrees" ({ cls := "JoinedTrees", name := "splice", desc := "(IIII)I" } : Jvm.MethodName) ({ cls := "JoinedTrees", name := "splice", desc := "(IIII)I" } : Jvm.MethodName)) ∈ gb := gm_4 94 rfl rfl
theorem kw_815 : (Jvm.Cond.code ({ cls := "JoinedTrees", name := "splice", desc := "(IIII)I" } : Jvm.MethodName) prog_1_method_7_code (10 : Nat) (Option.some Jvm.ClassFile.FieldType.int)) ∈ gb := gm_4 95 rfl rfl
theorem kw_816 : (Jvm.Cond.methodLink "JoinedTrees" (174 : Nat) ({ cls := "JoinedTrees$View", name := "filledIn", desc := "(LJoinedTrees$Op;)I" } : Jvm.MethodName)) ∈ gb := gm_4 96 rfl rfl
theorem kw_817 : (Jvm.Cond.instanceMethod ({ cls := "JoinedTrees$View", name := "filledIn", desc := "(LJoinedTrees$Op;)I" } : Jvm.MethodName)) ∈ gb := gm_4 97 rfl rfl
theorem kw_818 : (Jvm.Cond.selects "JoinedTrees$View" ({ cls := "JoinedTrees$View", name := "filledIn", desc := "(LJoinedTrees$Op;)I" } : Jvm.MethodName) ({ cls := "JoinedTrees$View", name := "filledIn", desc := "(LJoinedTrees$Op;)I" } : Jvm.MethodName)) ∈ gb := gm_4 98 rfl rfl
theorem kw_819 : (Jvm.Cond.code ({ cls := "JoinedTrees$View", name := "filledIn", desc := "(LJoinedTrees$Op;)I" } : Jvm.MethodName) prog_12_method_11_code (2 : Nat) (Option.some Jvm.ClassFile.FieldType.int)) ∈ gb := gm_4 99 rfl rfl
theorem kw_820 : (Jvm.Cond.methodLink "JoinedTrees$View" (108 : Nat) ({ cls := "JoinedTrees$View", name := "filledBefore", desc := "(LJoinedTrees$Spot;LJoinedTrees$Op;)I" } : Jvm.MethodName)) ∈ gb := gm_4 100 rfl rfl
theorem kw_821 : (Jvm.Cond.instanceMethod ({ cls := "JoinedTrees$View", name := "filledBefore", desc := "(LJoinedTrees$Spot;LJoinedTrees$Op;)I" } : Jvm.MethodName)) ∈ gb := gm_4 101 rfl rfl
theorem kw_822 : (Jvm.Cond.selects "JoinedTrees$View" ({ cls := "JoinedTrees$View", name := "filledBefore", desc := "(LJoinedTrees$Spot;LJoinedTrees$Op;)I" } : Jvm.MethodName) ({ cls := "JoinedTrees$View", name := "filledBefore", desc := "(LJoinedTrees$Spot;LJoinedTrees$Op;)I" } : Jvm.MethodName)) ∈ gb := gm_4 102 rfl rfl
theorem kw_823 : (Jvm.Cond.code ({ cls := "JoinedTrees$View", name := "filledBefore", desc := "(LJoinedTrees$Spot;LJoinedTrees$Op;)I" } : Jvm.MethodName) prog_12_method_12_code (5 : Nat) (Option.some Jvm.ClassFile.FieldType.int)) ∈ gb := gm_4 103 rfl rfl
theorem kw_824 : (Jvm.Cond.methodLink "JoinedTrees" (181 : Nat) ({ cls := "JoinedTrees", name := "eraseRun", desc := "(LJoinedTrees$Replica;LJoinedTrees$Spot;I)V" } : Jvm.MethodName)) ∈ gb := gm_4 104 rfl rfl
theorem kw_826 : (Jvm.Cond.instanceMethod ({ cls := "JoinedTrees", name := "eraseRun", desc := "(LJoinedTrees$Replica;LJoinedTrees$Spot;I)V" } : Jvm.MethodName)) ∈ gb := gm_4 106 rfl rfl
theorem kw_827 : (Jvm.Cond.code ({ cls := "JoinedTrees", name := "eraseRun", desc := "(LJoinedTrees$Replica;LJoinedTrees$Spot;I)V" } : Jvm.MethodName) prog_1_method_50_code (6 : Nat) (Option.none : Option Jvm.ClassFile.FieldType)) ∈ gb := gm_4 107 rfl rfl
theorem kw_828 : (Jvm.Cond.methodLink "JoinedTrees" (408 : Nat) ({ cls := "JoinedTrees$View", name := "top", desc := "(LJoinedTrees$Spot;)LJoinedTrees$Op;" } : Jvm.MethodName)) ∈ gb := gm_4 108 rfl rfl
theorem kw_829 : (Jvm.Cond.methodLink "JoinedTrees" (185 : Nat) ({ cls := "JoinedTrees", name := "insertRun", desc := "(LJoinedTrees$Replica;LJoinedTrees$Op;LJoinedTrees$Op;)V" } : Jvm.MethodName)) ∈ gb := gm_4 109 rfl rfl
theorem kw_831 : (Jvm.Cond.instanceMethod ({ cls := "JoinedTrees", name := "insertRun", desc := "(LJoinedTrees$Replica;LJoinedTrees$Op;LJoinedTrees$Op;)V" } : Jvm.MethodName)) ∈ gb := gm_4 111 rfl rfl
theorem kw_832 : (Jvm.Cond.code ({ cls := "JoinedTrees", name := "insertRun", desc := "(LJoinedTrees$Replica;LJoinedTrees$Op;LJoinedTrees$Op;)V" } : Jvm.MethodName) prog_1_method_51_code (6 : Nat) (Option.none : Option Jvm.ClassFile.FieldType)) ∈ gb := gm_4 112 rfl rfl
theorem kw_833 : (Jvm.Cond.methodLink "JoinedTreesLaw" (145 : Nat) ({ cls := "JoinedTreesLaw", name := "erase", desc := "(LJoinedTrees;III[J)I" } : Jvm.MethodName)) ∈ gb := gm_4 113 rfl rfl
theorem kw_834 : (Jvm.Cond.static ({ cls := "JoinedTreesLaw", name := "erase", desc := "(LJoinedTrees;III[J)I" } : Jvm.MethodName)) ∈ gb := gm_4 114 rfl rfl
theorem kw_835 : (Jvm.Cond.codeWith ({ cls := "JoinedTreesLaw", name := "erase", desc := "(LJoinedTrees;III[J)I" } : Jvm.MethodName) method_9_code (6 : Nat) (Option.some Jvm.ClassFile.FieldType.int) [((0 : Nat), (12 : Nat), (15 : Nat), (19 : Nat)), ((0 : Nat), (12 : Nat), (19 : Nat), (25 : Nat)), ((0 : Nat), (12 : Nat), (23 : Nat), (27 : Nat)), ((0 : Nat), (12 : Nat), (27 : Nat), (13 : Nat))]) ∈ gb := gm_4 115 rfl rfl
theorem kw_836 : (Jvm.Cond.methodLink "JoinedTreesLaw" (40 : Nat) ({ cls := "JoinedTrees", name := "erase", desc := "(III)I" } : Jvm.MethodName)) ∈ gb := gm_4 116 rfl rfl
theorem kw_837 : (Jvm.Cond.instanceMethod ({ cls := "JoinedTrees", name := "erase", desc := "(III)I" } : Jvm.MethodName)) ∈ gb := gm_4 117 rfl rfl
theorem kw_838 : (Jvm.Cond.selects "JoinedTrees" ({ cls := "JoinedTrees", name := "erase", desc := "(III)I" } : Jvm.MethodName) ({ cls := "JoinedTrees", name := "erase", desc := "(III)I" } : Jvm.MethodName)) ∈ gb := gm_4 118 rfl rfl
theorem kw_839 : (Jvm.Cond.code ({ cls := "JoinedTrees", name := "erase", desc := "(III)I" } : Jvm.MethodName) prog_1_method_8_code (7 : Nat) (Option.some Jvm.ClassFile.FieldType.int)) ∈ gb := gm_4 119 rfl rfl
theorem kw_840 : (Jvm.Cond.methodLink "JoinedTrees" (189 : Nat) ({ cls := "JoinedTrees", name := "needPlace", desc := "(II)V" } : Jvm.MethodName)) ∈ gb := gm_4 120 rfl rfl
theorem kw_842 : (Jvm.Cond.instanceMethod ({ cls := "JoinedTrees", name := "needPlace", desc := "(II)V" } : Jvm.MethodName)) ∈ gb := gm_4 122 rfl rfl
theorem kw_843 : (Jvm.Cond.code ({ cls := "JoinedTrees", name := "needPlace", desc := "(II)V" } : Jvm.MethodName) prog_1_method_35_code (3 : Nat) (Option.none : Option Jvm.ClassFile.FieldType)) ∈ gb := gm_4 123 rfl rfl
theorem kw_844 : (Jvm.Cond.methodLink "JoinedTrees" (192 : Nat) ({ cls := "JoinedTrees", name := "placeAt", desc := "(II)LJoinedTrees$Spot;" } : Jvm.MethodName)) ∈ gb := gm_4 124 rfl rfl
theorem kw_846 : (Jvm.Cond.instanceMethod ({ cls := "JoinedTrees", name := "placeAt", desc := "(II)LJoinedTrees$Spot;" } : Jvm.MethodName)) ∈ gb := gm_4 126 rfl rfl
theorem kw_847 : (Jvm.Cond.code ({ cls := "JoinedTrees", name := "placeAt", desc := "(II)LJoinedTrees$Spot;" } : Jvm.MethodName) prog_1_method_44_code (4 : Nat) (Option.some (Jvm.ClassFile.FieldType.object "JoinedTrees$Spot"))) ∈ gb := gm_4 127 rfl rfl
theorem kw_848 : (Jvm.Cond.methodLink "JoinedTreesLaw" (149 : Nat) ({ cls := "JoinedTreesLaw", name := "add", desc := "(LJoinedTrees;IIIJ[J)I" } : Jvm.MethodName)) ∈ gb := gm_4 128 rfl rfl
theorem kw_849 : (Jvm.Cond.static ({ cls := "JoinedTreesLaw", name := "add", desc := "(LJoinedTrees;IIIJ[J)I" } : Jvm.MethodName)) ∈ gb := gm_4 129 rfl rfl
theorem kw_850 : (Jvm.Cond.codeWith ({ cls := "JoinedTreesLaw", name := "add", desc := "(LJoinedTrees;IIIJ[J)I" } : Jvm.MethodName) method_10_code (8 : Nat) (Option.some Jvm.ClassFile.FieldType.int) [((0 : Nat), (14 : Nat), (17 : Nat), (19 : Nat)), ((0 : Nat), (14 : Nat), (21 : Nat), (25 : Nat)), ((0 : Nat), (14 : Nat), (25 : Nat), (27 : Nat)), ((0 : Nat), (14 : Nat), (29 : Nat), (13 : Nat))]) ∈ gb := gm_4 130 rfl rfl
theorem kw_851 : (Jvm.Cond.methodLink "JoinedTreesLaw" (44 : Nat) ({ cls := "JoinedTrees", name := "add", desc := "(IIIJ)I" } : Jvm.MethodName)) ∈ gb := gm_4 131 rfl rfl
theorem kw_852 : (Jvm.Cond.instanceMethod ({ cls := "JoinedTrees", name := "add", desc := "(IIIJ)I" } : Jvm.MethodName)) ∈ gb := gm_4 132 rfl rfl
theorem kw_853 : (Jvm.Cond.selects "JoinedTrees" ({ cls := "JoinedTrees", name := "add", desc := "(IIIJ)I" } : Jvm.MethodName) ({ cls := "JoinedTrees", name := "add", desc := "(IIIJ)I" } : Jvm.MethodName)) ∈ gb := gm_4 133 rfl rfl
theorem kw_854 : (Jvm.Cond.code ({ cls := "JoinedTrees", name := "add", desc := "(IIIJ)I" } : Jvm.MethodName) prog_1_method_9_code (9 : Nat) (Option.some Jvm.ClassFile.FieldType.int)) ∈ gb := gm_4 134 rfl rfl
theorem kw_855 : (Jvm.Cond.methodLink "JoinedTreesLaw" (152 : Nat) ({ cls := "JoinedTreesLaw", name := "read", desc := "(LJoinedTrees;II[J)I" } : Jvm.MethodName)) ∈ gb := gm_4 135 rfl rfl
theorem kw_856 : (Jvm.Cond.static ({ cls := "JoinedTreesLaw", name := "read", desc := "(LJoinedTrees;II[J)I" } : Jvm.MethodName)) ∈ gb := gm_4 136 rfl rfl
theorem kw_857 : (Jvm.Cond.codeWith ({ cls := "JoinedTreesLaw", name := "read", desc := "(LJoinedTrees;II[J)I" } : Jvm.MethodName) method_11_code (5 : Nat) (Option.some Jvm.ClassFile.FieldType.int) [((0 : Nat), (10 : Nat), (13 : Nat), (19 : Nat)), ((0 : Nat), (10 : Nat), (17 : Nat), (25 : Nat)), ((0 : Nat), (10 : Nat), (21 : Nat), (27 : Nat)), ((0 : Nat), (10 : Nat), (25 : Nat), (13 : Nat))]) ∈ gb := gm_4 137 rfl rfl
theorem kw_858 : (Jvm.Cond.methodLink "JoinedTreesLaw" (47 : Nat) ({ cls := "JoinedTrees", name := "read", desc := "(II)I" } : Jvm.MethodName)) ∈ gb := gm_4 138 rfl rfl
theorem kw_859 : (Jvm.Cond.instanceMethod ({ cls := "JoinedTrees", name := "read", desc := "(II)I" } : Jvm.MethodName)) ∈ gb := gm_4 139 rfl rfl
theorem kw_860 : (Jvm.Cond.selects "JoinedTrees" ({ cls := "JoinedTrees", name := "read", desc := "(II)I" } : Jvm.MethodName) ({ cls := "JoinedTrees", name := "read", desc := "(II)I" } : Jvm.MethodName)) ∈ gb := gm_4 140 rfl rfl
theorem kw_861 : (Jvm.Cond.code ({ cls := "JoinedTrees", name := "read", desc := "(II)I" } : Jvm.MethodName) prog_1_method_10_code (6 : Nat) (Option.some Jvm.ClassFile.FieldType.int)) ∈ gb := gm_4 141 rfl rfl
theorem kw_862 : (Jvm.Cond.methodLink "JoinedTrees" (205 : Nat) ({ cls := "JoinedTrees$JsonReader", name := "parse", desc := "(LJoinedTrees$Row;)Z" } : Jvm.MethodName)) ∈ gb := gm_4 142 rfl rfl
theorem kw_863 : (Jvm.Cond.instanceMethod ({ cls := "JoinedTrees$JsonReader", name := "parse", desc := "(LJoinedTrees$Row;)Z" } : Jvm.MethodName)) ∈ gb := gm_4 143 rfl rfl
theorem kw_864 : (Jvm.Cond.selects "JoinedTrees$JsonReader" ({ cls := "JoinedTrees$JsonReader", name := "parse", desc := "(LJoinedTrees$Row;)Z" } : Jvm.MethodName) ({ cls := "JoinedTrees$JsonReader", name := "parse", desc := "(LJoinedTrees$Row;)Z" } : Jvm.MethodName)) ∈ gb := gm_4 144 rfl rfl
theorem kw_865 : (Jvm.Cond.code ({ cls := "JoinedTrees$JsonReader", name := "parse", desc := "(LJoinedTrees$Row;)Z" } : Jvm.MethodName) prog_3_method_2_code (4 : Nat) (Option.some Jvm.ClassFile.FieldType.boolean)) ∈ gb := gm_4 145 rfl rfl
theorem kw_866 : (Jvm.Cond.methodLink "JoinedTrees$JsonReader" (50 : Nat) ({ cls := "JoinedTrees$Row", name := "clear", desc := "()V" } : Jvm.MethodName)) ∈ gb := gm_4 146 rfl rfl
theorem kw_867 : (Jvm.Cond.methodLink "JoinedTrees$JsonReader" (53 : Nat) ({ cls := "JoinedTrees$JsonReader", name := "skipBlanks", desc := "()V" } : Jvm.MethodName)) ∈ gb := gm_4 147 rfl rfl
theorem kw_868 : (Jvm.Cond.instanceMethod ({ cls := "JoinedTrees$JsonReader", name := "skipBlanks", desc := "()V" } : Jvm.MethodName)) ∈ gb := gm_4 148 rfl rfl
theorem kw_869 : (Jvm.Cond.selects "JoinedTrees$JsonReader" ({ cls := "JoinedTrees$JsonReader", name := "skipBlanks", desc := "()V" } : Jvm.MethodName) ({ cls := "JoinedTrees$JsonReader", name := "skipBlanks", desc := "()V" } : Jvm.MethodName)) ∈ gb := gm_4 149 rfl rfl
theorem kw_870 : (Jvm.Cond.code ({ cls := "JoinedTrees$JsonReader", name := "skipBlanks", desc := "()V" } : Jvm.MethodName) prog_3_method_3_code (2 : Nat) (Option.none : Option Jvm.ClassFile.FieldType)) ∈ gb := gm_4 150 rfl rfl
theorem kw_871 : (Jvm.Cond.methodLink "JoinedTrees$JsonReader" (70 : Nat) ({ cls := "JoinedTrees$Row", name := "at", desc := "(I)I" } : Jvm.MethodName)) ∈ gb := gm_4 151 rfl rfl
theorem kw_872 : (Jvm.Cond.methodLink "JoinedTrees$JsonReader" (73 : Nat) ({ cls := "JoinedTrees$JsonReader", name := "isBlank", desc := "(I)Z" } : Jvm.MethodName)) ∈ gb := gm_4 152 rfl rfl
theorem kw_873 : (Jvm.Cond.static ({ cls := "JoinedTrees$JsonReader", name := "isBlank", desc := "(I)Z" } : Jvm.MethodName)) ∈ gb := gm_4 153 rfl rfl
theorem kw_874 : (Jvm.Cond.code ({ cls := "JoinedTrees$JsonReader", name := "isBlank", desc := "(I)Z" } : Jvm.MethodName) prog_3_method_4_code (1 : Nat) (Option.some Jvm.ClassFile.FieldType.boolean)) ∈ gb := gm_4 154 rfl rfl
theorem kw_875 : (Jvm.Cond.methodLink "JoinedTrees$JsonReader" (56 : Nat) ({ cls := "JoinedTrees$JsonReader", name := "readValue", desc := "()Z" } : Jvm.MethodName)) ∈ gb := gm_4 155 rfl rfl
theorem kw_876 : (Jvm.Cond.instanceMethod ({ cls := "JoinedTrees$JsonReader", name := "readValue", desc := "()Z" } : Jvm.MethodName)) ∈ gb := gm_4 156 rfl rfl
theorem kw_877 : (Jvm.Cond.selects "JoinedTrees$JsonReader" ({ cls := "JoinedTrees$JsonReader", name := "readValue", desc := "()Z" } : Jvm.MethodName) ({ cls := "JoinedTrees$JsonReader", name := "readValue", desc := "()Z" } : Jvm.MethodName)) ∈ gb := gm_4 157 rfl rfl
theorem kw_878 : (Jvm.Cond.code ({ cls := "JoinedTrees$JsonReader", name := "readValue", desc := "()Z" } : Jvm.MethodName) prog_3_method_8_code (2 : Nat) (Option.some Jvm.ClassFile.FieldType.boolean)) ∈ gb := gm_4 158 rfl rfl
theorem kw_879 : (Jvm.Cond.methodLink "JoinedTrees$JsonReader" (101 : Nat) ({ cls := "JoinedTrees$Value", name := "begin", desc := "(LJoinedTrees$Value;II)V" } : Jvm.MethodName)) ∈ gb := gm_4 159 rfl rfl
theorem kw_880 : (Jvm.Cond.instanceMethod ({ cls := "JoinedTrees$Value", name := "begin", desc := "(LJoinedTrees$Value;II)V" } : Jvm.MethodName)) ∈ gb := gm_4 160 rfl rfl
theorem kw_881 : (Jvm.Cond.selects "JoinedTrees$Value" ({ cls := "JoinedTrees$Value", name := "begin", desc := "(LJoinedTrees$Value;II)V" } : Jvm.MethodName) ({ cls := "JoinedTrees$Value", name := "begin", desc := "(LJoinedTrees$Value;II)V" } : Jvm.MethodName)) ∈ gb := gm_4 161 rfl rfl
theorem kw_882 : (Jvm.Cond.code ({ cls := "JoinedTrees$Value", name := "begin", desc := "(LJoinedTrees$Value;II)V" } : Jvm.MethodName) prog_11_method_2_code (4 : Nat) (Option.none : Option Jvm.ClassFile.FieldType)) ∈ gb := gm_4 162 rfl rfl
theorem kw_883 : (Jvm.Cond.methodLink "JoinedTrees$JsonReader" (105 : Nat) ({ cls := "JoinedTrees$JsonReader", name := "openInside", desc := "(LJoinedTrees$Value;I)Z" } : Jvm.MethodName)) ∈ gb := gm_4 163 rfl rfl
theorem kw_884 : (Jvm.Cond.instanceMethod ({ cls := "JoinedTrees$JsonReader", name := "openInside", desc := "(LJoinedTrees$Value;I)Z" } : Jvm.MethodName)) ∈ gb := gm_4 164 rfl rfl
theorem kw_885 : (Jvm.Cond.selects "JoinedTrees$JsonReader" ({ cls := "JoinedTrees$JsonReader", name := "openInside", desc := "(LJoinedTrees$Value;I)Z" } : Jvm.MethodName) ({ cls := "JoinedTrees$JsonReader", name := "openInside", desc := "(LJoinedTrees$Value;I)Z" } : Jvm.MethodName)) ∈ gb := gm_4 165 rfl rfl
theorem kw_886 : (Jvm.Cond.code ({ cls := "JoinedTrees$JsonReader", name := "openInside", desc := "(LJoinedTrees$Value;I)Z" } : Jvm.MethodName) prog_3_method_9_code (3 : Nat) (Option.some Jvm.ClassFile.FieldType.boolean)) ∈ gb := gm_4 166 rfl rfl
theorem kw_887 : (Jvm.Cond.methodLink "JoinedTrees$JsonReader" (109 : Nat) ({ cls := "JoinedTrees$JsonReader", name := "readStringValue", desc := "(LJoinedTrees$Value;)Z" } : Jvm.MethodName)) ∈ gb := gm_4 167 rfl rfl
theorem kw_888 : (Jvm.Cond.instanceMethod ({ cls := "JoinedTrees$JsonReader", name := "readStringValue", desc := "(LJoinedTrees$Value;)Z" } : Jvm.MethodName)) ∈ gb := gm_4 168 rfl rfl
theorem kw_889 : (Jvm.Cond.selects "JoinedTrees$JsonReader" ({ cls := "JoinedTrees$JsonReader", name := "readStringValue", desc := "(LJoinedTrees$Value;)Z" } : Jvm.MethodName) ({ cls := "JoinedTrees$JsonReader", name := "readStringValue", desc := "(LJoinedTrees$Value;)Z" } : Jvm.MethodName)) ∈ gb := gm_4 169 rfl rfl
theorem kw_890 : (Jvm.Cond.code ({ cls := "JoinedTrees$JsonReader", name := "readStringValue", desc := "(LJoinedTrees$Value;)Z" } : Jvm.MethodName) prog_3_method_10_code (2 : Nat) (Option.some Jvm.ClassFile.FieldType.boolean)) ∈ gb := gm_4 170 rfl rfl
theorem kw_891 : (Jvm.Cond.methodLink "JoinedTrees$JsonReader" (89 : Nat) ({ cls := "JoinedTrees$JsonReader", name := "readString", desc := "(I)Z" } : Jvm.MethodName)) ∈ gb := gm_4 171 rfl rfl
theorem kw_892 : (Jvm.Cond.instanceMethod ({ cls := "JoinedTrees$JsonReader", name := "readString", desc := "(I)Z" } : Jvm.MethodName)) ∈ gb := gm_4 172 rfl rfl
theorem kw_893 : (Jvm.Cond.selects "JoinedTrees$JsonReader" ({ cls := "JoinedTrees$JsonReader", name := "readString", desc := "(I)Z" } : Jvm.MethodName) ({ cls := "JoinedTrees$JsonReader", name := "readString", desc := "(I)Z" } : Jvm.MethodName)) ∈ gb := gm_4 173 rfl rfl
theorem kw_894 : (Jvm.Cond.code ({ cls := "JoinedTrees$JsonReader", name := "readString", desc := "(I)Z" } : Jvm.MethodName) prog_3_method_11_code (4 : Nat) (Option.some Jvm.ClassFile.FieldType.boolean)) ∈ gb := gm_4 174 rfl rfl
theorem kw_895 : (Jvm.Cond.methodLink "JoinedTrees$JsonReader" (130 : Nat) ({ cls := "JoinedTrees$Row", name := "write", desc := "(I)V" } : Jvm.MethodName)) ∈ gb := gm_4 175 rfl rfl
theorem kw_896 : (Jvm.Cond.methodLink "JoinedTrees$JsonReader" (133 : Nat) ({ cls := "JoinedTrees$JsonReader", name := "readEscaped", desc := "()Z" } : Jvm.MethodName)) ∈ gb := gm_4 176 rfl rfl
theorem kw_897 : (Jvm.Cond.instanceMethod ({ cls := "JoinedTrees$JsonReader", name := "readEscaped", desc := "()Z" } : Jvm.MethodName)) ∈ gb := gm_4 177 rfl rfl
theorem kw_898 : (Jvm.Cond.selects "JoinedTrees$JsonReader" ({ cls := "JoinedTrees$JsonReader", name := "readEscaped", desc := "()Z" } : Jvm.MethodName) ({ cls := "JoinedTrees$JsonReader", name := "readEscaped", desc := "()Z" } : Jvm.MethodName)) ∈ gb := gm_4 178 rfl rfl
theorem kw_899 : (Jvm.Cond.code ({ cls := "JoinedTrees$JsonReader", name := "readEscaped", desc := "()Z" } : Jvm.MethodName) prog_3_method_12_code (6 : Nat) (Option.some Jvm.ClassFile.FieldType.boolean)) ∈ gb := gm_4 179 rfl rfl
theorem kw_900 : (Jvm.Cond.methodLink "JoinedTrees$JsonReader" (136 : Nat) ({ cls := "JoinedTrees$JsonReader", name := "hexDigit", desc := "(I)I" } : Jvm.MethodName)) ∈ gb := gm_4 180 rfl rfl
theorem kw_901 : (Jvm.Cond.static ({ cls := "JoinedTrees$JsonReader", name := "hexDigit", desc := "(I)I" } : Jvm.MethodName)) ∈ gb := gm_4 181 rfl rfl
theorem kw_902 : (Jvm.Cond.code ({ cls := "JoinedTrees$JsonReader", name := "hexDigit", desc := "(I)I" } : Jvm.MethodName) prog_3_method_13_code (1 : Nat) (Option.some Jvm.ClassFile.FieldType.int)) ∈ gb := gm_4 182 rfl rfl
theorem kw_904 : (Jvm.Cond.methodLink "JoinedTrees$JsonReader" (115 : Nat) ({ cls := "JoinedTrees$JsonReader", name := "readWord", desc := "(LJoinedTrees$Value;ILjava/lang/String;)Z" } : Jvm.MethodName)) ∈ gb := gm_4 184 rfl rfl
theorem kw_905 : (Jvm.Cond.instanceMethod ({ cls := "JoinedTrees$JsonReader", name := "readWord", desc := "(LJoinedTrees$Value;ILjava/lang/String;)Z" } : Jvm.MethodName)) ∈ gb := gm_4 185 rfl rfl
theorem kw_906 : (Jvm.Cond.selects "JoinedTrees$JsonReader" ({ cls := "JoinedTrees$JsonReader", name := "readWord", desc := "(LJoinedTrees$Value;ILjava/lang/String;)Z" } : Jvm.MethodName) ({ cls := "JoinedTrees$JsonReader", name := "readWord", desc := "(LJoinedTrees$Value;ILjava/lang/String;)Z" } : Jvm.MethodName)) ∈ gb := gm_4 186 rfl rfl
theorem kw_907 : (Jvm.Cond.code ({ cls := "JoinedTrees$JsonReader", name := "readWord", desc := "(LJoinedTrees$Value;ILjava/lang/String;)Z" } : Jvm.MethodName) prog_3_method_14_code (5 : Nat) (Option.some Jvm.ClassFile.FieldType.boolean)) ∈ gb := gm_4 187 rfl rfl
theorem kw_908 : (Jvm.Cond.methodLink "JoinedTrees$JsonReader" (139 : Nat) ({ cls := "java/lang/String", name := "length", desc := "()I" } : Jvm.MethodName)) ∈ gb := gm_4 188 rfl rfl
theorem kw_909 : (Jvm.Cond.instanceMethod ({ cls := "java/lang/String", name := "length", desc := "()I" } : Jvm.MethodName)) ∈ gb := gm_4 189 rfl rfl
theorem kw_910 : (Jvm.Cond.selects "java/lang/String" ({ cls := "java/lang/String", name := "length", desc := "()I" } : Jvm.MethodName) ({ cls := "java/lang/String", name := "length", desc := "()I" } : Jvm.MethodName)) ∈ gb := gm_4 190 rfl rfl
theorem kw_911 : (Jvm.Cond.code ({ cls := "java/lang/String", name := "length", desc := "()I" } : Jvm.MethodName) prog_23_method_54_code (1 : Nat) (Option.some Jvm.ClassFile.FieldType.int)) ∈ gb := gm_4 191 rfl rfl
theorem kw_912 : (Jvm.Cond.methodLink "java/lang/String" (335 : Nat) ({ cls := "java/lang/String", name := "coder", desc := "()B" } : Jvm.MethodName)) ∈ gb := gm_4 192 rfl rfl
theorem kw_913 : (Jvm.Cond.instanceMethod ({ cls := "java/lang/String", name := "coder", desc := "()B" } : Jvm.MethodName)) ∈ gb := gm_4 193 rfl rfl
theorem kw_914 : (Jvm.Cond.selects "java/lang/String" ({ cls := "java/lang/String", name := "coder", desc := "()B" } : Jvm.MethodName) ({ cls := "java/lang/String", name := "coder", desc := "()B" } : Jvm.MethodName)) ∈ gb := gm_4 194 rfl rfl
theorem kw_915 : (Jvm.Cond.code ({ cls := "java/lang/String", name := "coder", desc := "()B" } : Jvm.MethodName) prog_23_method_152_code (1 : Nat) (Option.some Jvm.ClassFile.FieldType.byte)) ∈ gb := gm_4 195 rfl rfl
theorem kw_916 : (Jvm.Cond.fieldLink "java/lang/String" (38 : Nat) "java/lang/String" "COMPACT_STRINGS" "Z") ∈ gb := gm_4 196 rfl rfl
theorem kw_918 : (Jvm.Cond.methodLink "JoinedTrees$JsonReader" (144 : Nat) ({ cls := "java/lang/String", name := "charAt", desc := "(I)C" } : Jvm.MethodName)) ∈ gb := gm_4 198 rfl rfl
theorem kw_919 : (Jvm.Cond.instanceMethod ({ cls := "java/lang/String", name := "charAt", desc := "(I)C" } : Jvm.MethodName)) ∈ gb := gm_4 199 rfl rfl
theorem kw_920 : (Jvm.Cond.selects "java/lang/String" ({ cls := "java/lang/String", name := "charAt", desc := "(I)C" } : Jvm.MethodName) ({ cls := "java/lang/String", name := "charAt", desc := "(I)C" } : Jvm.MethodName)) ∈ gb := gm_4 200 rfl rfl
theorem kw_921 : (Jvm.Cond.code ({ cls := "java/lang/String", name := "charAt", desc := "(I)C" } : Jvm.MethodName) prog_23_method_56_code (2 : Nat) (Option.some Jvm.ClassFile.FieldType.char)) ∈ gb := gm_4 201 rfl rfl
theorem kw_922 : (Jvm.Cond.methodLink "java/lang/String" (492 : Nat) ({ cls := "java/lang/String", name := "isLatin1", desc := "()Z" } : Jvm.MethodName)) ∈ gb := gm_4 202 rfl rfl
theorem kw_923 : (Jvm.Cond.instanceMethod ({ cls := "java/lang/String", name := "isLatin1", desc := "()Z" } : Jvm.MethodName)) ∈ gb := gm_4 203 rfl rfl
theorem kw_924 : (Jvm.Cond.selects "java/lang/String" ({ cls := "java/lang/String", name := "isLatin1", desc := "()Z" } : Jvm.MethodName) ({ cls := "java/lang/String", name := "isLatin1", desc := "()Z" } : Jvm.MethodName)) ∈ gb := gm_4 204 rfl rfl
theorem kw_925 : (Jvm.Cond.code ({ cls := "java/lang/String", name := "isLatin1", desc := "()Z" } : Jvm.MethodName) prog_23_method_154_code (1 : Nat) (Option.some Jvm.ClassFile.FieldType.boolean)) ∈ gb := gm_4 205 rfl rfl
theorem kw_926 : (Jvm.Cond.methodLink "java/lang/String" (495 : Nat) ({ cls := "java/lang/StringLatin1", name := "charAt", desc := "([BI)C" } : Jvm.MethodName)) ∈ gb := gm_4 206 rfl rfl
theorem kw_927 : (Jvm.Cond.static ({ cls := "java/lang/StringLatin1", name := "charAt", desc := "([BI)C" } : Jvm.MethodName)) ∈ gb := gm_4 207 rfl rfl
theorem kw_928 : (Jvm.Cond.code ({ cls := "java/lang/StringLatin1", name := "charAt", desc := "([BI)C" } : Jvm.MethodName) prog_24_method_2_code (2 : Nat) (Option.some Jvm.ClassFile.FieldType.char)) ∈ gb := gm_4 208 rfl rfl
theorem kw_929 : (Jvm.Cond.methodLink "java/lang/StringLatin1" (9 : Nat) ({ cls := "java/lang/String", name := "checkIndex", desc := "(II)V" } : Jvm.MethodName)) ∈ gb := gm_4 209 rfl rfl
theorem kw_930 : (Jvm.Cond.static ({ cls := "java/lang/String", name := "checkIndex", desc := "(II)V" } : Jvm.MethodName)) ∈ gb := gm_4 210 rfl rfl
theorem kw_931 : (Jvm.Cond.code ({ cls := "java/lang/String", name := "checkIndex", desc := "(II)V" } : Jvm.MethodName) prog_23_method_155_code (2 : Nat) (Option.none : Option Jvm.ClassFile.FieldType)) ∈ gb := gm_4 211 rfl rfl
theorem kw_932 : (Jvm.Cond.fieldLink "java/lang/String" (1053 : Nat) "jdk/internal/util/Preconditions" "SIOOBE_FORMATTER" "Ljava/util/function/BiFunction;") ∈ gb := gm_4 212 rfl rfl
theorem kw_934 : (Jvm.Cond.methodLink "java/lang/String" (1059 : Nat) ({ cls := "jdk/internal/util/Preconditions", name := "checkIndex", desc := "(IILjava/util/function/BiFunction;)I" } : Jvm.MethodName)) ∈ gb := gm_4 214 rfl rfl
theorem kw_935 : (Jvm.Cond.static ({ cls := "jdk/internal/util/Preconditions", name := "checkIndex", desc := "(IILjava/util/function/BiFunction;)I" } : Jvm.MethodName)) ∈ gb := gm_4 215 rfl rfl
theorem kw_936 : (Jvm.Cond.code ({ cls := "jdk/internal/util/Preconditions", name := "checkIndex", desc := "(IILjava/util/function/BiFunction;)I" } : Jvm.MethodName) prog_29_method_11_code (3 : Nat) (Option.some Jvm.ClassFile.FieldType.int)) ∈ gb := gm_4 216 rfl rfl
theorem kw_937 : (Jvm.Cond.methodLink "java/lang/String" (498 : Nat) ({ cls := "java/lang/StringUTF16", name := "charAt", desc := "([BI)C" } : Jvm.MethodName)) ∈ gb := gm_4 217 rfl rfl
theorem kw_938 : (Jvm.Cond.static ({ cls := "java/lang/StringUTF16", name := "charAt", desc := "([BI)C" } : Jvm.MethodName)) ∈ gb := gm_4 218 rfl rfl
theorem kw_939 : (Jvm.Cond.code ({ cls := "java/lang/StringUTF16", name := "charAt", desc := "([BI)C" } : Jvm.MethodName) prog_25_method_83_code (2 : Nat) (Option.some Jvm.ClassFile.FieldType.char)) ∈ gb := gm_4 219 rfl rfl
theorem kw_940 : (Jvm.Cond.methodLink "java/lang/StringUTF16" (67 : Nat) ({ cls := "java/lang/StringUTF16", name := "checkIndex", desc := "(I[B)V" } : Jvm.MethodName)) ∈ gb := gm_4 220 rfl rfl
theorem kw_941 : (Jvm.Cond.static ({ cls := "java/lang/StringUTF16", name := "checkIndex", desc := "(I[B)V" } : Jvm.MethodName)) ∈ gb := gm_4 221 rfl rfl
theorem kw_942 : (Jvm.Cond.code ({ cls := "java/lang/StringUTF16", name := "checkIndex", desc := "(I[B)V" } : Jvm.MethodName) prog_25_method_91_code (2 : Nat) (Option.none : Option Jvm.ClassFile.FieldType)) ∈ gb := gm_4 222 rfl rfl
theorem kw_943 : (Jvm.Cond.methodLink "java/lang/StringUTF16" (48 : Nat) ({ cls := "java/lang/StringUTF16", name := "length", desc := "([B)I" } : Jvm.MethodName)) ∈ gb := gm_4 223 rfl rfl
theorem kw_944 : (Jvm.Cond.static ({ cls := "java/lang/StringUTF16", name := "length", desc := "([B)I" } : Jvm.MethodName)) ∈ gb := gm_4 224 rfl rfl
theorem kw_945 : (Jvm.Cond.code ({ cls := "java/lang/StringUTF16", name := "length", desc := "([B)I" } : Jvm.MethodName) prog_25_method_6_code (1 : Nat) (Option.some Jvm.ClassFile.FieldType.int)) ∈ gb := gm_4 225 rfl rfl
theorem kw_946 : (Jvm.Cond.methodLink "java/lang/StringUTF16" (414 : Nat) ({ cls := "java/lang/String", name := "checkIndex", desc := "(II)V" } : Jvm.MethodName)) ∈ gb := gm_4 226 rfl rfl
theorem kw_947 : (Jvm.Cond.methodLink "java/lang/StringUTF16" (71 : Nat) ({ cls := "java/lang/StringUTF16", name := "getChar", desc := "([BI)C" } : Jvm.MethodName)) ∈ gb := gm_4 227 rfl rfl
theorem kw_948 : (Jvm.Cond.static ({ cls := "java/lang/StringUTF16", name := "getChar", desc := "([BI)C" } : Jvm.MethodName)) ∈ gb := gm_4 228 rfl rfl
theorem kw_949 : (Jvm.Cond.code ({ cls := "java/lang/StringUTF16", name := "getChar", desc := "([BI)C" } : Jvm.MethodName) prog_25_method_5_code (2 : Nat) (Option.some Jvm.ClassFile.FieldType.char)) ∈ gb := gm_4 229 rfl rfl
theorem kw_950 : (Jvm.Cond.fieldLink "java/lang/StringUTF16" (44 : Nat) "java/lang/StringUTF16" "$assertionsDisabled" "Z") ∈ gb := gm_4 230 rfl rfl
theorem kw_952 : (Jvm.Cond.fieldLink "java/lang/StringUTF16" (59 : Nat) "java/lang/StringUTF16" "HI_BYTE_SHIFT" "I") ∈ gb := gm_4 232 rfl rfl
theorem kw_954 : (Jvm.Cond.fieldLink "java/lang/StringUTF16" (63 : Nat) "java/lang/StringUTF16" "LO_BYTE_SHIFT" "I") ∈ gb := gm_4 234 rfl rfl
theorem kw_958 : (Jvm.Cond.methodLink "JoinedTrees$JsonReader" (123 : Nat) ({ cls := "JoinedTrees$JsonReader", name := "readNumber", desc := "(LJoinedTrees$Value;)Z" } : Jvm.MethodName)) ∈ gb := gm_4 238 rfl rfl
theorem kw_959 : (Jvm.Cond.instanceMethod ({ cls := "JoinedTrees$JsonReader", name := "readNumber", desc := "(LJoinedTrees$Value;)Z" } : Jvm.MethodName)) ∈ gb := gm_4 239 rfl rfl
theorem kw_960 : (Jvm.Cond.selects "JoinedTrees$JsonReader" ({ cls := "JoinedTrees$JsonReader", name := "readNumber", desc := "(LJoinedTrees$Value;)Z" } : Jvm.MethodName) ({ cls := "JoinedTrees$JsonReader", name := "readNumber", desc := "(LJoinedTrees$Value;)Z" } : Jvm.MethodName)) ∈ gb := gm_5 0 rfl rfl
theorem kw_961 : (Jvm.Cond.code ({ cls := "JoinedTrees$JsonReader", name := "readNumber", desc := "(LJoinedTrees$Value;)Z" } : Jvm.MethodName) prog_3_method_15_code (7 : Nat) (Option.some Jvm.ClassFile.FieldType.boolean)) ∈ gb := gm_5 1 rfl rfl
theorem kw_963 : (Jvm.Cond.static ({ cls := "JoinedTrees", name := "isDigit", desc := "(I)Z" } : Jvm.MethodName)) ∈ gb := gm_5 3 rfl rfl
theorem kw_964 : (Jvm.Cond.code ({ cls := "JoinedTrees", name := "isDigit", desc := "(I)Z" } : Jvm.MethodName) prog_1_method_58_code (1 : Nat) (Option.some Jvm.ClassFile.FieldType.boolean)) ∈ gb := gm_5 4 rfl rfl
theorem kw_965 : (Jvm.Cond.constantLong "JoinedTrees$JsonReader" (151 : Nat) (10 : Int64)) ∈ gb := gm_5 5 rfl rfl
theorem kw_966 : (Jvm.Cond.constantLong "JoinedTrees$JsonReader" (153 : Nat) (48 : Int64)) ∈ gb := gm_5 6 rfl rfl
theorem kw_967 : (Jvm.Cond.methodLink "JoinedTrees$JsonReader" (60 : Nat) ({ cls := "JoinedTrees$JsonReader", name := "readInside", desc := "()Z" } : Jvm.MethodName)) ∈ gb := gm_5 7 rfl rfl
theorem kw_968 : (Jvm.Cond.instanceMethod ({ cls := "JoinedTrees$JsonReader", name := "readInside", desc := "()Z" } : Jvm.MethodName)) ∈ gb := gm_5 8 rfl rfl
theorem kw_969 : (Jvm.Cond.selects "JoinedTrees$JsonReader" ({ cls := "JoinedTrees$JsonReader", name := "readInside", desc := "()Z" } : Jvm.MethodName) ({ cls := "JoinedTrees$JsonReader", name := "readInside", desc := "()Z" } : Jvm.MethodName)) ∈ gb := gm_5 9 rfl rfl
theorem kw_970 : (Jvm.Cond.code ({ cls := "JoinedTrees$JsonReader", name := "readInside", desc := "()Z" } : Jvm.MethodName) prog_3_method_5_code (1 : Nat) (Option.some Jvm.ClassFile.FieldType.boolean)) ∈ gb := gm_5 10 rfl rfl
theorem kw_971 : (Jvm.Cond.methodLink "JoinedTrees$JsonReader" (86 : Nat) ({ cls := "JoinedTrees$JsonReader", name := "readKey", desc := "()Z" } : Jvm.MethodName)) ∈ gb := gm_5 11 rfl rfl
theorem kw_972 : (Jvm.Cond.instanceMethod ({ cls := "JoinedTrees$JsonReader", name := "readKey", desc := "()Z" } : Jvm.MethodName)) ∈ gb := gm_5 12 rfl rfl
theorem kw_973 : (Jvm.Cond.selects "JoinedTrees$JsonReader" ({ cls := "JoinedTrees$JsonReader", name := "readKey", desc := "()Z" } : Jvm.MethodName) ({ cls := "JoinedTrees$JsonReader", name := "readKey", desc := "()Z" } : Jvm.MethodName)) ∈ gb := gm_5 13 rfl rfl
theorem kw_974 : (Jvm.Cond.code ({ cls := "JoinedTrees$JsonReader", name := "readKey", desc := "()Z" } : Jvm.MethodName) prog_3_method_6_code (2 : Nat) (Option.some Jvm.ClassFile.FieldType.boolean)) ∈ gb := gm_5 14 rfl rfl
theorem kw_975 : (Jvm.Cond.methodLink "JoinedTrees$JsonReader" (92 : Nat) ({ cls := "JoinedTrees$JsonReader", name := "isNewKey", desc := "(I)Z" } : Jvm.MethodName)) ∈ gb := gm_5 15 rfl rfl
theorem kw_976 : (Jvm.Cond.instanceMethod ({ cls := "JoinedTrees$JsonReader", name := "isNewKey", desc := "(I)Z" } : Jvm.MethodName)) ∈ gb := gm_5 16 rfl rfl
theorem kw_977 : (Jvm.Cond.selects "JoinedTrees$JsonReader" ({ cls := "JoinedTrees$JsonReader", name := "isNewKey", desc := "(I)Z" } : Jvm.MethodName) ({ cls := "JoinedTrees$JsonReader", name := "isNewKey", desc := "(I)Z" } : Jvm.MethodName)) ∈ gb := gm_5 17 rfl rfl
theorem kw_978 : (Jvm.Cond.code ({ cls := "JoinedTrees$JsonReader", name := "isNewKey", desc := "(I)Z" } : Jvm.MethodName) prog_3_method_7_code (5 : Nat) (Option.some Jvm.ClassFile.FieldType.boolean)) ∈ gb := gm_5 18 rfl rfl
theorem kw_979 : (Jvm.Cond.methodLink "JoinedTrees$JsonReader" (97 : Nat) ({ cls := "JoinedTrees$Row", name := "compareWith", desc := "(IILJoinedTrees$Row;II)I" } : Jvm.MethodName)) ∈ gb := gm_5 19 rfl rfl
theorem kw_980 : (Jvm.Cond.methodLink "JoinedTrees" (216 : Nat) ({ cls := "JoinedTrees", name := "writeValues", desc := "(LJoinedTrees$Replica;LJoinedTrees$Op;)I" } : Jvm.MethodName)) ∈ gb := gm_5 20 rfl rfl
theorem kw_982 : (Jvm.Cond.instanceMethod ({ cls := "JoinedTrees", name := "writeValues", desc := "(LJoinedTrees$Replica;LJoinedTrees$Op;)I" } : Jvm.MethodName)) ∈ gb := gm_5 22 rfl rfl
theorem kw_983 : (Jvm.Cond.code ({ cls := "JoinedTrees", name := "writeValues", desc := "(LJoinedTrees$Replica;LJoinedTrees$Op;)I" } : Jvm.MethodName) prog_1_method_52_code (8 : Nat) (Option.some Jvm.ClassFile.FieldType.int)) ∈ gb := gm_5 23 rfl rfl
theorem kw_984 : (Jvm.Cond.methodLink "JoinedTreesLaw" (156 : Nat) ({ cls := "JoinedTreesLaw", name := "commit", desc := "(LJoinedTrees;I[J)I" } : Jvm.MethodName)) ∈ gb := gm_5 24 rfl rfl
theorem kw_985 : (Jvm.Cond.static ({ cls := "JoinedTreesLaw", name := "commit", desc := "(LJoinedTrees;I[J)I" } : Jvm.MethodName)) ∈ gb := gm_5 25 rfl rfl
theorem kw_986 : (Jvm.Cond.codeWith ({ cls := "JoinedTreesLaw", name := "commit", desc := "(LJoinedTrees;I[J)I" } : Jvm.MethodName) method_12_code (4 : Nat) (Option.some Jvm.ClassFile.FieldType.int) [((0 : Nat), (9 : Nat), (12 : Nat), (19 : Nat)), ((0 : Nat), (9 : Nat), (15 : Nat), (25 : Nat)), ((0 : Nat), (9 : Nat), (18 : Nat), (13 : Nat))]) ∈ gb := gm_5 26 rfl rfl
theorem kw_987 : (Jvm.Cond.methodLink "JoinedTreesLaw" (51 : Nat) ({ cls := "JoinedTrees", name := "commit", desc := "(I)I" } : Jvm.MethodName)) ∈ gb := gm_5 27 rfl rfl
theorem kw_988 : (Jvm.Cond.instanceMethod ({ cls := "JoinedTrees", name := "commit", desc := "(I)I" } : Jvm.MethodName)) ∈ gb := gm_5 28 rfl rfl
theorem kw_989 : (Jvm.Cond.selects "JoinedTrees" ({ cls := "JoinedTrees", name := "commit", desc := "(I)I" } : Jvm.MethodName) ({ cls := "JoinedTrees", name := "commit", desc := "(I)I" } : Jvm.MethodName)) ∈ gb := gm_5 29 rfl rfl
theorem kw_990 : (Jvm.Cond.code ({ cls := "JoinedTrees", name := "commit", desc := "(I)I" } : Jvm.MethodName) prog_1_method_11_code (3 : Nat) (Option.some Jvm.ClassFile.FieldType.int)) ∈ gb := gm_5 30 rfl rfl
theorem kw_991 : (Jvm.Cond.methodLink "JoinedTrees" (229 : Nat) ({ cls := "JoinedTrees$Store", name := "close", desc := "(LJoinedTrees$Replica;)I" } : Jvm.MethodName)) ∈ gb := gm_5 31 rfl rfl
theorem kw_992 : (Jvm.Cond.instanceMethod ({ cls := "JoinedTrees$Store", name := "close", desc := "(LJoinedTrees$Replica;)I" } : Jvm.MethodName)) ∈ gb := gm_5 32 rfl rfl
theorem kw_993 : (Jvm.Cond.selects "JoinedTrees$Store" ({ cls := "JoinedTrees$Store", name := "close", desc := "(LJoinedTrees$Replica;)I" } : Jvm.MethodName) ({ cls := "JoinedTrees$Store", name := "close", desc := "(LJoinedTrees$Replica;)I" } : Jvm.MethodName)) ∈ gb := gm_5 33 rfl rfl
theorem kw_994 : (Jvm.Cond.code ({ cls := "JoinedTrees$Store", name := "close", desc := "(LJoinedTrees$Replica;)I" } : Jvm.MethodName) prog_10_method_11_code (3 : Nat) (Option.some Jvm.ClassFile.FieldType.int)) ∈ gb := gm_5 34 rfl rfl
theorem kw_995 : (Jvm.Cond.instantiable "JoinedTrees$Change" (7 : Nat)) ∈ gb := gm_5 35 rfl rfl
theorem kw_996 : (Jvm.Cond.methodLink "JoinedTrees$Store" (129 : Nat) ({ cls := "JoinedTrees$Replica", name := "copyHeads", desc := "()[LJoinedTrees$Change;" } : Jvm.MethodName)) ∈ gb := gm_5 36 rfl rfl
theorem kw_997 : (Jvm.Cond.instanceMethod ({ cls := "JoinedTrees$Replica", name := "copyHeads", desc := "()[LJoinedTrees$Change;" } : Jvm.MethodName)) ∈ gb := gm_5 37 rfl rfl
theorem kw_998 : (Jvm.Cond.selects "JoinedTrees$Replica" ({ cls := "JoinedTrees$Replica", name := "copyHeads", desc := "()[LJoinedTrees$Change;" } : Jvm.MethodName) ({ cls := "JoinedTrees$Replica", name := "copyHeads", desc := "()[LJoinedTrees$Change;" } : Jvm.MethodName)) ∈ gb := gm_5 38 rfl rfl
theorem kw_999 : (Jvm.Cond.code ({ cls := "JoinedTrees$Replica", name := "copyHeads", desc := "()[LJoinedTrees$Change;" } : Jvm.MethodName) prog_6_method_7_code (4 : Nat) (Option.some (Jvm.ClassFile.FieldType.array (Jvm.ClassFile.FieldType.object "JoinedTrees$Change")))) ∈ gb := gm_5 39 rfl rfl
theorem kw_1000 : (Jvm.Cond.methodLink "JoinedTrees$Replica" (49 : Nat) ({ cls := "JoinedTrees$Replica", name := "headsNow", desc := "()I" } : Jvm.MethodName)) ∈ gb := gm_5 40 rfl rfl
theorem kw_1001 : (Jvm.Cond.instanceMethod ({ cls := "JoinedTrees$Replica", name := "headsNow", desc := "()I" } : Jvm.MethodName)) ∈ gb := gm_5 41 rfl rfl
theorem kw_1002 : (Jvm.Cond.selects "JoinedTrees$Replica" ({ cls := "JoinedTrees$Replica", name := "headsNow", desc := "()I" } : Jvm.MethodName) ({ cls := "JoinedTrees$Replica", name := "headsNow", desc := "()I" } : Jvm.MethodName)) ∈ gb := gm_5 42 rfl rfl
theorem kw_1003 : (Jvm.Cond.code ({ cls := "JoinedTrees$Replica", name := "headsNow", desc := "()I" } : Jvm.MethodName) prog_6_method_6_code (3 : Nat) (Option.some Jvm.ClassFile.FieldType.int)) ∈ gb := gm_5 43 rfl rfl
theorem kw_1004 : (Jvm.Cond.methodLink "JoinedTrees$Store" (133 : Nat) ({ cls := "JoinedTrees$Change", name := "<init>", desc := "(LJoinedTrees$Replica;I[LJoinedTrees$Change;)V" } : Jvm.MethodName)) ∈ gb := gm_5 44 rfl rfl
theorem kw_1005 : (Jvm.Cond.instanceMethod ({ cls := "JoinedTrees$Change", name := "<init>", desc := "(LJoinedTrees$Replica;I[LJoinedTrees$Change;)V" } : Jvm.MethodName)) ∈ gb := gm_5 45 rfl rfl
theorem kw_1006 : (Jvm.Cond.code ({ cls := "JoinedTrees$Change", name := "<init>", desc := "(LJoinedTrees$Replica;I[LJoinedTrees$Change;)V" } : Jvm.MethodName) prog_2_method_1_code (4 : Nat) (Option.none : Option Jvm.ClassFile.FieldType)) ∈ gb := gm_5 46 rfl rfl
theorem kw_1007 : (Jvm.Cond.methodLink "JoinedTrees$Change" (1 : Nat) ({ cls := "java/lang/Object", name := "<init>", desc := "()V" } : Jvm.MethodName)) ∈ gb := gm_5 47 rfl rfl
theorem kw_1008 : (Jvm.Cond.fieldLink "JoinedTrees$Change" (13 : Nat) "JoinedTrees$Change" "actor" "I") ∈ gb := gm_5 48 rfl rfl
theorem kw_1009 : (Jvm.Cond.fieldLink "JoinedTrees$Replica" (32 : Nat) "JoinedTrees$Change" "actor" "I") ∈ gb := gm_5 49 rfl rfl
theorem kw_1010 : (Jvm.Cond.fieldLink "JoinedTrees$Saver" (50 : Nat) "JoinedTrees$Change" "actor" "I") ∈ gb := gm_5 50 rfl rfl
theorem kw_1011 : (Jvm.Cond.fieldLink "JoinedTrees$Store" (151 : Nat) "JoinedTrees$Change" "actor" "I") ∈ gb := gm_5 51 rfl rfl
theorem kw_1012 : (Jvm.Cond.fieldLink "JoinedTrees" (373 : Nat) "JoinedTrees$Change" "actor" "I") ∈ gb := gm_5 52 rfl rfl
theorem kw_1013 : (Jvm.Cond.fieldLink "JoinedTrees$Change" (20 : Nat) "JoinedTrees$Change" "number" "I") ∈ gb := gm_5 53 rfl rfl
theorem kw_1014 : (Jvm.Cond.fieldLink "JoinedTrees$Replica" (29 : Nat) "JoinedTrees$Change" "number" "I") ∈ gb := gm_5 54 rfl rfl
theorem kw_1015 : (Jvm.Cond.fieldLink "JoinedTrees$Saver" (103 : Nat) "JoinedTrees$Change" "number" "I") ∈ gb := gm_5 55 rfl rfl
theorem kw_1016 : (Jvm.Cond.fieldLink "JoinedTrees$Store" (148 : Nat) "JoinedTrees$Change" "number" "I") ∈ gb := gm_5 56 rfl rfl
theorem kw_1017 : (Jvm.Cond.fieldLink "JoinedTrees" (364 : Nat) "JoinedTrees$Change" "number" "I") ∈ gb := gm_5 57 rfl rfl
theorem kw_1018 : (Jvm.Cond.fieldLink "JoinedTrees$Change" (23 : Nat) "JoinedTrees$Change" "serial" "I") ∈ gb := gm_5 58 rfl rfl
theorem kw_1019 : (Jvm.Cond.fieldLink "JoinedTrees$Replica" (37 : Nat) "JoinedTrees$Change" "serial" "I") ∈ gb := gm_5 59 rfl rfl
theorem kw_1020 : (Jvm.Cond.fieldLink "JoinedTrees$Change" (32 : Nat) "JoinedTrees$Change" "firstCounter" "I") ∈ gb := gm_5 60 rfl rfl
theorem kw_1021 : (Jvm.Cond.fieldLink "JoinedTrees$Saver" (109 : Nat) "JoinedTrees$Change" "firstCounter" "I") ∈ gb := gm_5 61 rfl rfl
theorem kw_1022 : (Jvm.Cond.fieldLink "JoinedTrees$Store" (166 : Nat) "JoinedTrees$Change" "firstCounter" "I") ∈ gb := gm_5 62 rfl rfl
theorem kw_1023 : (Jvm.Cond.fieldLink "JoinedTrees$Change" (35 : Nat) "JoinedTrees$Change" "size" "I") ∈ gb := gm_5 63 rfl rfl
theorem kw_1024 : (Jvm.Cond.fieldLink "JoinedTrees$Saver" (112 : Nat) "JoinedTrees$Change" "size" "I") ∈ gb := gm_5 64 rfl rfl
theorem kw_1025 : (Jvm.Cond.fieldLink "JoinedTrees$Store" (163 : Nat) "JoinedTrees$Change" "size" "I") ∈ gb := gm_5 65 rfl rfl
theorem kw_1026 : (Jvm.Cond.fieldLink "JoinedTrees$Change" (38 : Nat) "JoinedTrees$Change" "deps" "[LJoinedTrees$Change;") ∈ gb := gm_5 66 rfl rfl
theorem kw_1027 : (Jvm.Cond.fieldLink "JoinedTrees$Replica" (43 : Nat) "JoinedTrees$Change" "deps" "[LJoinedTrees$Change;") ∈ gb := gm_5 67 rfl rfl
theorem kw_1028 : (Jvm.Cond.fieldLink "JoinedTrees$Saver" (106 : Nat) "JoinedTrees$Change" "deps" "[LJoinedTrees$Change;") ∈ gb := gm_5 68 rfl rfl
theorem kw_1029 : (Jvm.Cond.fieldLink "JoinedTrees$View" (34 : Nat) "JoinedTrees$Change" "clock" "[I") ∈ gb := gm_5 69 rfl rfl
theorem kw_1030 : (Jvm.Cond.fieldLink "JoinedTrees$Replica" (57 : Nat) "JoinedTrees$Change" "clock" "[I") ∈ gb := gm_5 70 rfl rfl
theorem kw_1031 : (Jvm.Cond.fieldLink "JoinedTrees$Store" (145 : Nat) "JoinedTrees$Change" "clock" "[I") ∈ gb := gm_5 71 rfl rfl
theorem kw_1032 : (Jvm.Cond.laysFinal "JoinedTrees$Change" "JoinedTrees$Change" "actor" "I") ∈ gb := gm_5 72 rfl rfl
theorem kw_1033 : (Jvm.Cond.soleField "JoinedTrees$Change" "actor") ∈ gb := gm_5 73 rfl rfl
theorem kw_1034 : (Jvm.Cond.laysFinal "JoinedTrees$Change" "JoinedTrees$Change" "number" "I") ∈ gb := gm_5 74 rfl rfl
theorem kw_1035 : (Jvm.Cond.soleField "JoinedTrees$Change" "number") ∈ gb := gm_5 75 rfl rfl
theorem kw_1036 : (Jvm.Cond.laysFinal "JoinedTrees$Change" "JoinedTrees$Change" "serial" "I") ∈ gb := gm_5 76 rfl rfl
theorem kw_1037 : (Jvm.Cond.soleField "JoinedTrees$Change" "serial") ∈ gb := gm_5 77 rfl rfl
theorem kw_1038 : (Jvm.Cond.laysFinal "JoinedTrees$Change" "JoinedTrees$Change" "firstCounter" "I") ∈ gb := gm_5 78 rfl rfl
theorem kw_1039 : (Jvm.Cond.soleField "JoinedTrees$Change" "firstCounter") ∈ gb := gm_5 79 rfl rfl
theorem kw_1040 : (Jvm.Cond.laysFinal "JoinedTrees$Change" "JoinedTrees$Change" "size" "I") ∈ gb := gm_5 80 rfl rfl
theorem kw_1041 : (Jvm.Cond.soleField "JoinedTrees$Change" "size") ∈ gb := gm_5 81 rfl rfl
theorem kw_1042 : (Jvm.Cond.laysFinal "JoinedTrees$Change" "JoinedTrees$Change" "deps" "[LJoinedTrees$Change;") ∈ gb := gm_5 82 rfl rfl
theorem kw_1043 : (Jvm.Cond.soleField "JoinedTrees$Change" "deps") ∈ gb := gm_5 83 rfl rfl
theorem kw_1044 : (Jvm.Cond.lays "JoinedTrees$Change" "JoinedTrees$Change" "clock" "[I") ∈ gb := gm_5 84 rfl rfl
theorem kw_1045 : (Jvm.Cond.soleField "JoinedTrees$Change" "clock") ∈ gb := gm_5 85 rfl rfl
theorem kw_1046 : (Jvm.Cond.superclass "JoinedTrees$Change" "java/lang/Object") ∈ gb := gm_5 86 rfl rfl
theorem kw_1047 : (Jvm.Cond.methodLink "JoinedTrees$Store" (136 : Nat) ({ cls := "JoinedTrees$Replica", name := "gain", desc := "(LJoinedTrees$Change;)V" } : Jvm.MethodName)) ∈ gb := gm_5 87 rfl rfl
theorem kw_1048 : (Jvm.Cond.instanceMethod ({ cls := "JoinedTrees$Replica", name := "gain", desc := "(LJoinedTrees$Change;)V" } : Jvm.MethodName)) ∈ gb := gm_5 88 rfl rfl
theorem kw_1049 : (Jvm.Cond.selects "JoinedTrees$Replica" ({ cls := "JoinedTrees$Replica", name := "gain", desc := "(LJoinedTrees$Change;)V" } : Jvm.MethodName) ({ cls := "JoinedTrees$Replica", name := "gain", desc := "(LJoinedTrees$Change;)V" } : Jvm.MethodName)) ∈ gb := gm_5 89 rfl rfl
theorem kw_1050 : (Jvm.Cond.code ({ cls := "JoinedTrees$Replica", name := "gain", desc := "(LJoinedTrees$Change;)V" } : Jvm.MethodName) prog_6_method_5_code (4 : Nat) (Option.none : Option Jvm.ClassFile.FieldType)) ∈ gb := gm_5 90 rfl rfl
theorem kw_1051 : (Jvm.Cond.methodLink "JoinedTrees$Store" (140 : Nat) ({ cls := "[I", name := "clone", desc := "()Ljava/lang/Object;" } : Jvm.MethodName)) ∈ gb := gm_5 91 rfl rfl
theorem kw_1052 : (Jvm.Cond.sameMethod "[I" "java/lang/Object" "clone" "()Ljava/lang/Object;") ∈ gb := gm_5 92 rfl rfl
theorem kw_1053 : (Jvm.Cond.native ({ cls := "java/lang/Object", name := "clone", desc := "()Ljava/lang/Object;" } : Jvm.MethodName)) ∈ gb := gm_5 93 rfl rfl
theorem kw_1054 : (Jvm.Cond.instanceMethod ({ cls := "java/lang/Object", name := "clone", desc := "()Ljava/lang/Object;" } : Jvm.MethodName)) ∈ gb := gm_5 94 rfl rfl
theorem kw_1055 : (Jvm.Cond.selects "[I" ({ cls := "[I", name := "clone", desc := "()Ljava/lang/Object;" } : Jvm.MethodName) ({ cls := "java/lang/Object", name := "clone", desc := "()Ljava/lang/Object;" } : Jvm.MethodName)) ∈ gb := gm_5 95 rfl rfl
theorem kw_1057 : (Jvm.Cond.classLink "JoinedTrees$Store" (141 : Nat) "[I") ∈ gb := gm_5 97 rfl rfl
theorem kw_1058 : (Jvm.Cond.methodLink "JoinedTreesLaw" (159 : Nat) ({ cls := "JoinedTreesLaw", name := "drop", desc := "(LJoinedTrees;I[J)I" } : Jvm.MethodName)) ∈ gb := gm_5 98 rfl rfl
theorem kw_1059 : (Jvm.Cond.static ({ cls := "JoinedTreesLaw", name := "drop", desc := "(LJoinedTrees;I[J)I" } : Jvm.MethodName)) ∈ gb := gm_5 99 rfl rfl
theorem kw_1060 : (Jvm.Cond.codeWith ({ cls := "JoinedTreesLaw", name := "drop", desc := "(LJoinedTrees;I[J)I" } : Jvm.MethodName) method_13_code (4 : Nat) (Option.some Jvm.ClassFile.FieldType.int) [((0 : Nat), (9 : Nat), (12 : Nat), (19 : Nat))]) ∈ gb := gm_5 100 rfl rfl
theorem kw_1061 : (Jvm.Cond.methodLink "JoinedTreesLaw" (54 : Nat) ({ cls := "JoinedTrees", name := "drop", desc := "(I)I" } : Jvm.MethodName)) ∈ gb := gm_5 101 rfl rfl
theorem kw_1062 : (Jvm.Cond.instanceMethod ({ cls := "JoinedTrees", name := "drop", desc := "(I)I" } : Jvm.MethodName)) ∈ gb := gm_5 102 rfl rfl
theorem kw_1063 : (Jvm.Cond.selects "JoinedTrees" ({ cls := "JoinedTrees", name := "drop", desc := "(I)I" } : Jvm.MethodName) ({ cls := "JoinedTrees", name := "drop", desc := "(I)I" } : Jvm.MethodName)) ∈ gb := gm_5 103 rfl rfl
theorem kw_1064 : (Jvm.Cond.code ({ cls := "JoinedTrees", name := "drop", desc := "(I)I" } : Jvm.MethodName) prog_1_method_12_code (5 : Nat) (Option.some Jvm.ClassFile.FieldType.int)) ∈ gb := gm_5 104 rfl rfl
theorem kw_1065 : (Jvm.Cond.methodLink "JoinedTrees" (239 : Nat) ({ cls := "JoinedTrees$Store", name := "forget", desc := "(I)V" } : Jvm.MethodName)) ∈ gb := gm_5 105 rfl rfl
theorem kw_1066 : (Jvm.Cond.instanceMethod ({ cls := "JoinedTrees$Store", name := "forget", desc := "(I)V" } : Jvm.MethodName)) ∈ gb := gm_5 106 rfl rfl
theorem kw_1067 : (Jvm.Cond.selects "JoinedTrees$Store" ({ cls := "JoinedTrees$Store", name := "forget", desc := "(I)V" } : Jvm.MethodName) ({ cls := "JoinedTrees$Store", name := "forget", desc := "(I)V" } : Jvm.MethodName)) ∈ gb := gm_5 107 rfl rfl
theorem kw_1068 : (Jvm.Cond.code ({ cls := "JoinedTrees$Store", name := "forget", desc := "(I)V" } : Jvm.MethodName) prog_10_method_3_code (3 : Nat) (Option.none : Option Jvm.ClassFile.FieldType)) ∈ gb := gm_5 108 rfl rfl
theorem kw_1069 : (Jvm.Cond.methodLink "JoinedTreesLaw" (162 : Nat) ({ cls := "JoinedTreesLaw", name := "send", desc := "(LJoinedTrees;IIII[J)I" } : Jvm.MethodName)) ∈ gb := gm_5 109 rfl rfl
theorem kw_1070 : (Jvm.Cond.static ({ cls := "JoinedTreesLaw", name := "send", desc := "(LJoinedTrees;IIII[J)I" } : Jvm.MethodName)) ∈ gb := gm_5 110 rfl rfl
theorem kw_1071 : (Jvm.Cond.codeWith ({ cls := "JoinedTreesLaw", name := "send", desc := "(LJoinedTrees;IIII[J)I" } : Jvm.MethodName) method_14_code (7 : Nat) (Option.some Jvm.ClassFile.FieldType.int) [((0 : Nat), (14 : Nat), (17 : Nat), (19 : Nat)), ((0 : Nat), (14 : Nat), (21 : Nat), (25 : Nat)), ((0 : Nat), (14 : Nat), (25 : Nat), (27 : Nat))]) ∈ gb := gm_5 111 rfl rfl
theorem kw_1072 : (Jvm.Cond.methodLink "JoinedTreesLaw" (57 : Nat) ({ cls := "JoinedTrees", name := "send", desc := "(IIII)I" } : Jvm.MethodName)) ∈ gb := gm_5 112 rfl rfl
theorem kw_1073 : (Jvm.Cond.instanceMethod ({ cls := "JoinedTrees", name := "send", desc := "(IIII)I" } : Jvm.MethodName)) ∈ gb := gm_5 113 rfl rfl
theorem kw_1074 : (Jvm.Cond.selects "JoinedTrees" ({ cls := "JoinedTrees", name := "send", desc := "(IIII)I" } : Jvm.MethodName) ({ cls := "JoinedTrees", name := "send", desc := "(IIII)I" } : Jvm.MethodName)) ∈ gb := gm_5 114 rfl rfl
theorem kw_1075 : (Jvm.Cond.code ({ cls := "JoinedTrees", name := "send", desc := "(IIII)I" } : Jvm.MethodName) prog_1_method_13_code (8 : Nat) (Option.some Jvm.ClassFile.FieldType.int)) ∈ gb := gm_5 115 rfl rfl
theorem kw_1076 : (Jvm.Cond.methodLink "JoinedTrees" (245 : Nat) ({ cls := "JoinedTrees$Store", name := "changeAt", desc := "(II)LJoinedTrees$Change;" } : Jvm.MethodName)) ∈ gb := gm_5 116 rfl rfl
theorem kw_1077 : (Jvm.Cond.instanceMethod ({ cls := "JoinedTrees$Store", name := "changeAt", desc := "(II)LJoinedTrees$Change;" } : Jvm.MethodName)) ∈ gb := gm_5 117 rfl rfl
theorem kw_1078 : (Jvm.Cond.selects "JoinedTrees$Store" ({ cls := "JoinedTrees$Store", name := "changeAt", desc := "(II)LJoinedTrees$Change;" } : Jvm.MethodName) ({ cls := "JoinedTrees$Store", name := "changeAt", desc := "(II)LJoinedTrees$Change;" } : Jvm.MethodName)) ∈ gb := gm_5 118 rfl rfl
theorem kw_1079 : (Jvm.Cond.code ({ cls := "JoinedTrees$Store", name := "changeAt", desc := "(II)LJoinedTrees$Change;" } : Jvm.MethodName) prog_10_method_12_code (4 : Nat) (Option.some (Jvm.ClassFile.FieldType.object "JoinedTrees$Change"))) ∈ gb := gm_5 119 rfl rfl
theorem kw_1080 : (Jvm.Cond.methodLink "JoinedTrees" (249 : Nat) ({ cls := "JoinedTrees$Replica", name := "holds", desc := "(LJoinedTrees$Change;)Z" } : Jvm.MethodName)) ∈ gb := gm_5 120 rfl rfl
theorem kw_1081 : (Jvm.Cond.instanceMethod ({ cls := "JoinedTrees$Replica", name := "holds", desc := "(LJoinedTrees$Change;)Z" } : Jvm.MethodName)) ∈ gb := gm_5 121 rfl rfl
theorem kw_1082 : (Jvm.Cond.selects "JoinedTrees$Replica" ({ cls := "JoinedTrees$Replica", name := "holds", desc := "(LJoinedTrees$Change;)Z" } : Jvm.MethodName) ({ cls := "JoinedTrees$Replica", name := "holds", desc := "(LJoinedTrees$Change;)Z" } : Jvm.MethodName)) ∈ gb := gm_5 122 rfl rfl
theorem kw_1083 : (Jvm.Cond.code ({ cls := "JoinedTrees$Replica", name := "holds", desc := "(LJoinedTrees$Change;)Z" } : Jvm.MethodName) prog_6_method_2_code (2 : Nat) (Option.some Jvm.ClassFile.FieldType.boolean)) ∈ gb := gm_5 123 rfl rfl
theorem kw_1084 : (Jvm.Cond.methodLink "JoinedTrees" (253 : Nat) ({ cls := "JoinedTrees", name := "needNoneOpen", desc := "(LJoinedTrees$Replica;)V" } : Jvm.MethodName)) ∈ gb := gm_5 124 rfl rfl
theorem kw_1086 : (Jvm.Cond.instanceMethod ({ cls := "JoinedTrees", name := "needNoneOpen", desc := "(LJoinedTrees$Replica;)V" } : Jvm.MethodName)) ∈ gb := gm_5 126 rfl rfl
theorem kw_1087 : (Jvm.Cond.code ({ cls := "JoinedTrees", name := "needNoneOpen", desc := "(LJoinedTrees$Replica;)V" } : Jvm.MethodName) prog_1_method_38_code (2 : Nat) (Option.none : Option Jvm.ClassFile.FieldType)) ∈ gb := gm_5 127 rfl rfl
theorem kw_1088 : (Jvm.Cond.methodLink "JoinedTrees" (256 : Nat) ({ cls := "JoinedTrees$Replica", name := "expect", desc := "(LJoinedTrees$Change;)V" } : Jvm.MethodName)) ∈ gb := gm_5 128 rfl rfl
theorem kw_1089 : (Jvm.Cond.instanceMethod ({ cls := "JoinedTrees$Replica", name := "expect", desc := "(LJoinedTrees$Change;)V" } : Jvm.MethodName)) ∈ gb := gm_5 129 rfl rfl
theorem kw_1090 : (Jvm.Cond.selects "JoinedTrees$Replica" ({ cls := "JoinedTrees$Replica", name := "expect", desc := "(LJoinedTrees$Change;)V" } : Jvm.MethodName) ({ cls := "JoinedTrees$Replica", name := "expect", desc := "(LJoinedTrees$Change;)V" } : Jvm.MethodName)) ∈ gb := gm_5 130 rfl rfl
theorem kw_1091 : (Jvm.Cond.code ({ cls := "JoinedTrees$Replica", name := "expect", desc := "(LJoinedTrees$Change;)V" } : Jvm.MethodName) prog_6_method_3_code (2 : Nat) (Option.none : Option Jvm.ClassFile.FieldType)) ∈ gb := gm_5 131 rfl rfl
theorem kw_1092 : (Jvm.Cond.methodLink "JoinedTrees$Replica" (33 : Nat) ({ cls := "JoinedTrees$Replica", name := "holds", desc := "(LJoinedTrees$Change;)Z" } : Jvm.MethodName)) ∈ gb := gm_5 132 rfl rfl
theorem kw_1093 : (Jvm.Cond.methodLink "JoinedTrees" (260 : Nat) ({ cls := "JoinedTrees$Store", name := "settle", desc := "(LJoinedTrees$Replica;)I" } : Jvm.MethodName)) ∈ gb := gm_5 133 rfl rfl
theorem kw_1094 : (Jvm.Cond.instanceMethod ({ cls := "JoinedTrees$Store", name := "settle", desc := "(LJoinedTrees$Replica;)I" } : Jvm.MethodName)) ∈ gb := gm_5 134 rfl rfl
theorem kw_1095 : (Jvm.Cond.selects "JoinedTrees$Store" ({ cls := "JoinedTrees$Store", name := "settle", desc := "(LJoinedTrees$Replica;)I" } : Jvm.MethodName) ({ cls := "JoinedTrees$Store", name := "settle", desc := "(LJoinedTrees$Replica;)I" } : Jvm.MethodName)) ∈ gb := gm_5 135 rfl rfl
theorem kw_1096 : (Jvm.Cond.code ({ cls := "JoinedTrees$Store", name := "settle", desc := "(LJoinedTrees$Replica;)I" } : Jvm.MethodName) prog_10_method_13_code (5 : Nat) (Option.some Jvm.ClassFile.FieldType.int)) ∈ gb := gm_5 136 rfl rfl
theorem kw_1097 : (Jvm.Cond.methodLink "JoinedTrees$Store" (159 : Nat) ({ cls := "JoinedTrees$Replica", name := "isReadyFor", desc := "(LJoinedTrees$Change;)Z" } : Jvm.MethodName)) ∈ gb := gm_5 137 rfl rfl
theorem kw_1098 : (Jvm.Cond.instanceMethod ({ cls := "JoinedTrees$Replica", name := "isReadyFor", desc := "(LJoinedTrees$Change;)Z" } : Jvm.MethodName)) ∈ gb := gm_5 138 rfl rfl
theorem kw_1099 : (Jvm.Cond.selects "JoinedTrees$Replica" ({ cls := "JoinedTrees$Replica", name := "isReadyFor", desc := "(LJoinedTrees$Change;)Z" } : Jvm.MethodName) ({ cls := "JoinedTrees$Replica", name := "isReadyFor", desc := "(LJoinedTrees$Change;)Z" } : Jvm.MethodName)) ∈ gb := gm_5 139 rfl rfl
theorem kw_1100 : (Jvm.Cond.code ({ cls := "JoinedTrees$Replica", name := "isReadyFor", desc := "(LJoinedTrees$Change;)Z" } : Jvm.MethodName) prog_6_method_4_code (3 : Nat) (Option.some Jvm.ClassFile.FieldType.boolean)) ∈ gb := gm_5 140 rfl rfl
theorem kw_1101 : (Jvm.Cond.methodLink "JoinedTrees$Store" (169 : Nat) ({ cls := "java/lang/Math", name := "max", desc := "(II)I" } : Jvm.MethodName)) ∈ gb := gm_5 141 rfl rfl
theorem kw_1102 : (Jvm.Cond.static ({ cls := "java/lang/Math", name := "max", desc := "(II)I" } : Jvm.MethodName)) ∈ gb := gm_5 142 rfl rfl
theorem kw_1103 : (Jvm.Cond.code ({ cls := "java/lang/Math", name := "max", desc := "(II)I" } : Jvm.MethodName) prog_21_method_65_code (2 : Nat) (Option.some Jvm.ClassFile.FieldType.int)) ∈ gb := gm_5 143 rfl rfl
theorem kw_1104 : (Jvm.Cond.methodLink "JoinedTreesLaw" (165 : Nat) ({ cls := "JoinedTreesLaw", name := "join", desc := "(LJoinedTrees;II[J)I" } : Jvm.MethodName)) ∈ gb := gm_5 144 rfl rfl
theorem kw_1105 : (Jvm.Cond.static ({ cls := "JoinedTreesLaw", name := "join", desc := "(LJoinedTrees;II[J)I" } : Jvm.MethodName)) ∈ gb := gm_5 145 rfl rfl
theorem kw_1106 : (Jvm.Cond.codeWith ({ cls := "JoinedTreesLaw", name := "join", desc := "(LJoinedTrees;II[J)I" } : Jvm.MethodName) method_15_code (5 : Nat) (Option.some Jvm.ClassFile.FieldType.int) [((0 : Nat), (10 : Nat), (13 : Nat), (19 : Nat)), ((0 : Nat), (10 : Nat), (17 : Nat), (25 : Nat))]) ∈ gb := gm_5 146 rfl rfl
theorem kw_1107 : (Jvm.Cond.methodLink "JoinedTreesLaw" (60 : Nat) ({ cls := "JoinedTrees", name := "join", desc := "(II)I" } : Jvm.MethodName)) ∈ gb := gm_5 147 rfl rfl
theorem kw_1108 : (Jvm.Cond.instanceMethod ({ cls := "JoinedTrees", name := "join", desc := "(II)I" } : Jvm.MethodName)) ∈ gb := gm_5 148 rfl rfl
theorem kw_1109 : (Jvm.Cond.selects "JoinedTrees" ({ cls := "JoinedTrees", name := "join", desc := "(II)I" } : Jvm.MethodName) ({ cls := "JoinedTrees", name := "join", desc := "(II)I" } : Jvm.MethodName)) ∈ gb := gm_5 149 rfl rfl
theorem kw_1110 : (Jvm.Cond.code ({ cls := "JoinedTrees", name := "join", desc := "(II)I" } : Jvm.MethodName) prog_1_method_14_code (7 : Nat) (Option.some Jvm.ClassFile.FieldType.int)) ∈ gb := gm_5 150 rfl rfl
theorem kw_1111 : (Jvm.Cond.methodLink "JoinedTreesLaw" (168 : Nat) ({ cls := "JoinedTreesLaw", name := "look", desc := "(LJoinedTrees;III[J)I" } : Jvm.MethodName)) ∈ gb := gm_5 151 rfl rfl
theorem kw_1112 : (Jvm.Cond.static ({ cls := "JoinedTreesLaw", name := "look", desc := "(LJoinedTrees;III[J)I" } : Jvm.MethodName)) ∈ gb := gm_5 152 rfl rfl
theorem kw_1113 : (Jvm.Cond.codeWith ({ cls := "JoinedTreesLaw", name := "look", desc := "(LJoinedTrees;III[J)I" } : Jvm.MethodName) method_16_code (6 : Nat) (Option.some Jvm.ClassFile.FieldType.int) [((0 : Nat), (12 : Nat), (15 : Nat), (19 : Nat)), ((0 : Nat), (12 : Nat), (19 : Nat), (27 : Nat))]) ∈ gb := gm_5 153 rfl rfl
theorem kw_1114 : (Jvm.Cond.methodLink "JoinedTreesLaw" (63 : Nat) ({ cls := "JoinedTrees", name := "look", desc := "(III)I" } : Jvm.MethodName)) ∈ gb := gm_5 154 rfl rfl
theorem kw_1115 : (Jvm.Cond.instanceMethod ({ cls := "JoinedTrees", name := "look", desc := "(III)I" } : Jvm.MethodName)) ∈ gb := gm_5 155 rfl rfl
theorem kw_1116 : (Jvm.Cond.selects "JoinedTrees" ({ cls := "JoinedTrees", name := "look", desc := "(III)I" } : Jvm.MethodName) ({ cls := "JoinedTrees", name := "look", desc := "(III)I" } : Jvm.MethodName)) ∈ gb := gm_5 156 rfl rfl
theorem kw_1117 : (Jvm.Cond.code ({ cls := "JoinedTrees", name := "look", desc := "(III)I" } : Jvm.MethodName) prog_1_method_15_code (6 : Nat) (Option.some Jvm.ClassFile.FieldType.int)) ∈ gb := gm_5 157 rfl rfl
theorem kw_1118 : (Jvm.Cond.methodLink "JoinedTrees" (275 : Nat) ({ cls := "JoinedTrees$Replica", name := "changesInView", desc := "()I" } : Jvm.MethodName)) ∈ gb := gm_5 158 rfl rfl
theorem kw_1119 : (Jvm.Cond.instanceMethod ({ cls := "JoinedTrees$Replica", name := "changesInView", desc := "()I" } : Jvm.MethodName)) ∈ gb := gm_5 159 rfl rfl
theorem kw_1120 : (Jvm.Cond.selects "JoinedTrees$Replica" ({ cls := "JoinedTrees$Replica", name := "changesInView", desc := "()I" } : Jvm.MethodName) ({ cls := "JoinedTrees$Replica", name := "changesInView", desc := "()I" } : Jvm.MethodName)) ∈ gb := gm_5 160 rfl rfl
theorem kw_1121 : (Jvm.Cond.code ({ cls := "JoinedTrees$Replica", name := "changesInView", desc := "()I" } : Jvm.MethodName) prog_6_method_8_code (3 : Nat) (Option.some Jvm.ClassFile.FieldType.int)) ∈ gb := gm_5 161 rfl rfl
theorem kw_1122 : (Jvm.Cond.methodLink "JoinedTreesLaw" (171 : Nat) ({ cls := "JoinedTreesLaw", name := "object", desc := "(LJoinedTrees;III[J)I" } : Jvm.MethodName)) ∈ gb := gm_5 162 rfl rfl
theorem kw_1123 : (Jvm.Cond.static ({ cls := "JoinedTreesLaw", name := "object", desc := "(LJoinedTrees;III[J)I" } : Jvm.MethodName)) ∈ gb := gm_5 163 rfl rfl
theorem kw_1124 : (Jvm.Cond.codeWith ({ cls := "JoinedTreesLaw", name := "object", desc := "(LJoinedTrees;III[J)I" } : Jvm.MethodName) method_17_code (6 : Nat) (Option.some Jvm.ClassFile.FieldType.int) [((0 : Nat), (12 : Nat), (15 : Nat), (19 : Nat)), ((0 : Nat), (12 : Nat), (19 : Nat), (27 : Nat))]) ∈ gb := gm_5 164 rfl rfl
theorem kw_1125 : (Jvm.Cond.methodLink "JoinedTreesLaw" (66 : Nat) ({ cls := "JoinedTrees", name := "object", desc := "(III)I" } : Jvm.MethodName)) ∈ gb := gm_5 165 rfl rfl
theorem kw_1126 : (Jvm.Cond.instanceMethod ({ cls := "JoinedTrees", name := "object", desc := "(III)I" } : Jvm.MethodName)) ∈ gb := gm_5 166 rfl rfl
theorem kw_1127 : (Jvm.Cond.selects "JoinedTrees" ({ cls := "JoinedTrees", name := "object", desc := "(III)I" } : Jvm.MethodName) ({ cls := "JoinedTrees", name := "object", desc := "(III)I" } : Jvm.MethodName)) ∈ gb := gm_5 167 rfl rfl
theorem kw_1128 : (Jvm.Cond.code ({ cls := "JoinedTrees", name := "object", desc := "(III)I" } : Jvm.MethodName) prog_1_method_16_code (5 : Nat) (Option.some Jvm.ClassFile.FieldType.int)) ∈ gb := gm_5 168 rfl rfl
theorem kw_1129 : (Jvm.Cond.methodLink "JoinedTreesLaw" (174 : Nat) ({ cls := "JoinedTreesLaw", name := "key", desc := "(LJoinedTrees;IIII[J)I" } : Jvm.MethodName)) ∈ gb := gm_5 169 rfl rfl
theorem kw_1130 : (Jvm.Cond.static ({ cls := "JoinedTreesLaw", name := "key", desc := "(LJoinedTrees;IIII[J)I" } : Jvm.MethodName)) ∈ gb := gm_5 170 rfl rfl
theorem kw_1131 : (Jvm.Cond.codeWith ({ cls := "JoinedTreesLaw", name := "key", desc := "(LJoinedTrees;IIII[J)I" } : Jvm.MethodName) method_18_code (7 : Nat) (Option.some Jvm.ClassFile.FieldType.int) [((0 : Nat), (14 : Nat), (17 : Nat), (19 : Nat)), ((0 : Nat), (14 : Nat), (21 : Nat), (27 : Nat))]) ∈ gb := gm_5 171 rfl rfl
theorem kw_1132 : (Jvm.Cond.methodLink "JoinedTreesLaw" (69 : Nat) ({ cls := "JoinedTrees", name := "key", desc := "(IIII)I" } : Jvm.MethodName)) ∈ gb := gm_5 172 rfl rfl
theorem kw_1133 : (Jvm.Cond.instanceMethod ({ cls := "JoinedTrees", name := "key", desc := "(IIII)I" } : Jvm.MethodName)) ∈ gb := gm_5 173 rfl rfl
theorem kw_1134 : (Jvm.Cond.selects "JoinedTrees" ({ cls := "JoinedTrees", name := "key", desc := "(IIII)I" } : Jvm.MethodName) ({ cls := "JoinedTrees", name := "key", desc := "(IIII)I" } : Jvm.MethodName)) ∈ gb := gm_5 174 rfl rfl
theorem kw_1135 : (Jvm.Cond.code ({ cls := "JoinedTrees", name := "key", desc := "(IIII)I" } : Jvm.MethodName) prog_1_method_17_code (7 : Nat) (Option.some Jvm.ClassFile.FieldType.int)) ∈ gb := gm_5 175 rfl rfl
theorem kw_1136 : (Jvm.Cond.methodLink "JoinedTrees" (293 : Nat) ({ cls := "JoinedTrees$Row", name := "at", desc := "(I)I" } : Jvm.MethodName)) ∈ gb := gm_5 176 rfl rfl
theorem kw_1137 : (Jvm.Cond.methodLink "JoinedTreesLaw" (177 : Nat) ({ cls := "JoinedTreesLaw", name := "candidate", desc := "(LJoinedTrees;IIIII[J)I" } : Jvm.MethodName)) ∈ gb := gm_5 177 rfl rfl
theorem kw_1138 : (Jvm.Cond.static ({ cls := "JoinedTreesLaw", name := "candidate", desc := "(LJoinedTrees;IIIII[J)I" } : Jvm.MethodName)) ∈ gb := gm_5 178 rfl rfl
theorem kw_1139 : (Jvm.Cond.codeWith ({ cls := "JoinedTreesLaw", name := "candidate", desc := "(LJoinedTrees;IIIII[J)I" } : Jvm.MethodName) method_19_code (8 : Nat) (Option.some Jvm.ClassFile.FieldType.int) [((0 : Nat), (15 : Nat), (18 : Nat), (19 : Nat)), ((0 : Nat), (15 : Nat), (22 : Nat), (27 : Nat))]) ∈ gb := gm_5 179 rfl rfl
theorem kw_1140 : (Jvm.Cond.methodLink "JoinedTreesLaw" (72 : Nat) ({ cls := "JoinedTrees", name := "candidate", desc := "(IIIII)J" } : Jvm.MethodName)) ∈ gb := gm_5 180 rfl rfl
theorem kw_1141 : (Jvm.Cond.instanceMethod ({ cls := "JoinedTrees", name := "candidate", desc := "(IIIII)J" } : Jvm.MethodName)) ∈ gb := gm_5 181 rfl rfl
theorem kw_1142 : (Jvm.Cond.selects "JoinedTrees" ({ cls := "JoinedTrees", name := "candidate", desc := "(IIIII)J" } : Jvm.MethodName) ({ cls := "JoinedTrees", name := "candidate", desc := "(IIIII)J" } : Jvm.MethodName)) ∈ gb := gm_5 182 rfl rfl
theorem kw_1143 : (Jvm.Cond.code ({ cls := "JoinedTrees", name := "candidate", desc := "(IIIII)J" } : Jvm.MethodName) prog_1_method_18_code (8 : Nat) (Option.some Jvm.ClassFile.FieldType.long)) ∈ gb := gm_5 183 rfl rfl
theorem kw_1144 : (Jvm.Cond.methodLink "JoinedTrees" (300 : Nat) ({ cls := "JoinedTrees$View", name := "numberOf", desc := "(LJoinedTrees$Op;)J" } : Jvm.MethodName)) ∈ gb := gm_5 184 rfl rfl
theorem kw_1145 : (Jvm.Cond.instanceMethod ({ cls := "JoinedTrees$View", name := "numberOf", desc := "(LJoinedTrees$Op;)J" } : Jvm.MethodName)) ∈ gb := gm_5 185 rfl rfl
theorem kw_1146 : (Jvm.Cond.selects "JoinedTrees$View" ({ cls := "JoinedTrees$View", name := "numberOf", desc := "(LJoinedTrees$Op;)J" } : Jvm.MethodName) ({ cls := "JoinedTrees$View", name := "numberOf", desc := "(LJoinedTrees$Op;)J" } : Jvm.MethodName)) ∈ gb := gm_5 186 rfl rfl
theorem kw_1147 : (Jvm.Cond.code ({ cls := "JoinedTrees$View", name := "numberOf", desc := "(LJoinedTrees$Op;)J" } : Jvm.MethodName) prog_12_method_10_code (5 : Nat) (Option.some Jvm.ClassFile.FieldType.long)) ∈ gb := gm_5 187 rfl rfl
theorem kw_1148 : (Jvm.Cond.methodLink "JoinedTrees$View" (105 : Nat) ({ cls := "JoinedTrees$Op", name := "hasPred", desc := "(LJoinedTrees$Op;)Z" } : Jvm.MethodName)) ∈ gb := gm_5 188 rfl rfl
theorem kw_1149 : (Jvm.Cond.instanceMethod ({ cls := "JoinedTrees$Op", name := "hasPred", desc := "(LJoinedTrees$Op;)Z" } : Jvm.MethodName)) ∈ gb := gm_5 189 rfl rfl
theorem kw_1150 : (Jvm.Cond.selects "JoinedTrees$Op" ({ cls := "JoinedTrees$Op", name := "hasPred", desc := "(LJoinedTrees$Op;)Z" } : Jvm.MethodName) ({ cls := "JoinedTrees$Op", name := "hasPred", desc := "(LJoinedTrees$Op;)Z" } : Jvm.MethodName)) ∈ gb := gm_5 190 rfl rfl
theorem kw_1151 : (Jvm.Cond.code ({ cls := "JoinedTrees$Op", name := "hasPred", desc := "(LJoinedTrees$Op;)Z" } : Jvm.MethodName) prog_5_method_4_code (3 : Nat) (Option.some Jvm.ClassFile.FieldType.boolean)) ∈ gb := gm_5 191 rfl rfl
theorem kw_1152 : (Jvm.Cond.methodLink "JoinedTreesLaw" (180 : Nat) ({ cls := "JoinedTreesLaw", name := "letter", desc := "(LJoinedTrees;III[J)I" } : Jvm.MethodName)) ∈ gb := gm_5 192 rfl rfl
theorem kw_1153 : (Jvm.Cond.static ({ cls := "JoinedTreesLaw", name := "letter", desc := "(LJoinedTrees;III[J)I" } : Jvm.MethodName)) ∈ gb := gm_5 193 rfl rfl
theorem kw_1154 : (Jvm.Cond.codeWith ({ cls := "JoinedTreesLaw", name := "letter", desc := "(LJoinedTrees;III[J)I" } : Jvm.MethodName) method_20_code (6 : Nat) (Option.some Jvm.ClassFile.FieldType.int) [((0 : Nat), (12 : Nat), (15 : Nat), (19 : Nat)), ((0 : Nat), (12 : Nat), (19 : Nat), (27 : Nat))]) ∈ gb := gm_5 194 rfl rfl
theorem kw_1155 : (Jvm.Cond.methodLink "JoinedTreesLaw" (76 : Nat) ({ cls := "JoinedTrees", name := "letter", desc := "(III)I" } : Jvm.MethodName)) ∈ gb := gm_5 195 rfl rfl
theorem kw_1156 : (Jvm.Cond.instanceMethod ({ cls := "JoinedTrees", name := "letter", desc := "(III)I" } : Jvm.MethodName)) ∈ gb := gm_5 196 rfl rfl
theorem kw_1157 : (Jvm.Cond.selects "JoinedTrees" ({ cls := "JoinedTrees", name := "letter", desc := "(III)I" } : Jvm.MethodName) ({ cls := "JoinedTrees", name := "letter", desc := "(III)I" } : Jvm.MethodName)) ∈ gb := gm_5 197 rfl rfl
theorem kw_1158 : (Jvm.Cond.code ({ cls := "JoinedTrees", name := "letter", desc := "(III)I" } : Jvm.MethodName) prog_1_method_19_code (5 : Nat) (Option.some Jvm.ClassFile.FieldType.int)) ∈ gb := gm_5 198 rfl rfl
theorem kw_1159 : (Jvm.Cond.methodLink "JoinedTreesLaw" (183 : Nat) ({ cls := "JoinedTreesLaw", name := "element", desc := "(LJoinedTrees;III[J)I" } : Jvm.MethodName)) ∈ gb := gm_5 199 rfl rfl
theorem kw_1160 : (Jvm.Cond.static ({ cls := "JoinedTreesLaw", name := "element", desc := "(LJoinedTrees;III[J)I" } : Jvm.MethodName)) ∈ gb := gm_5 200 rfl rfl
theorem kw_1161 : (Jvm.Cond.codeWith ({ cls := "JoinedTreesLaw", name := "element", desc := "(LJoinedTrees;III[J)I" } : Jvm.MethodName) method_21_code (6 : Nat) (Option.some Jvm.ClassFile.FieldType.int) [((0 : Nat), (12 : Nat), (15 : Nat), (19 : Nat)), ((0 : Nat), (12 : Nat), (19 : Nat), (27 : Nat))]) ∈ gb := gm_5 201 rfl rfl
theorem kw_1162 : (Jvm.Cond.methodLink "JoinedTreesLaw" (79 : Nat) ({ cls := "JoinedTrees", name := "element", desc := "(III)I" } : Jvm.MethodName)) ∈ gb := gm_5 202 rfl rfl
theorem kw_1163 : (Jvm.Cond.instanceMethod ({ cls := "JoinedTrees", name := "element", desc := "(III)I" } : Jvm.MethodName)) ∈ gb := gm_5 203 rfl rfl
theorem kw_1164 : (Jvm.Cond.selects "JoinedTrees" ({ cls := "JoinedTrees", name := "element", desc := "(III)I" } : Jvm.MethodName) ({ cls := "JoinedTrees", name := "element", desc := "(III)I" } : Jvm.MethodName)) ∈ gb := gm_5 204 rfl rfl
theorem kw_1165 : (Jvm.Cond.code ({ cls := "JoinedTrees", name := "element", desc := "(III)I" } : Jvm.MethodName) prog_1_method_20_code (5 : Nat) (Option.some Jvm.ClassFile.FieldType.int)) ∈ gb := gm_5 205 rfl rfl
theorem kw_1166 : (Jvm.Cond.methodLink "JoinedTreesLaw" (186 : Nat) ({ cls := "JoinedTreesLaw", name := "index", desc := "(LJoinedTrees;III[J)I" } : Jvm.MethodName)) ∈ gb := gm_5 206 rfl rfl
theorem kw_1167 : (Jvm.Cond.static ({ cls := "JoinedTreesLaw", name := "index", desc := "(LJoinedTrees;III[J)I" } : Jvm.MethodName)) ∈ gb := gm_5 207 rfl rfl
theorem kw_1168 : (Jvm.Cond.codeWith ({ cls := "JoinedTreesLaw", name := "index", desc := "(LJoinedTrees;III[J)I" } : Jvm.MethodName) method_22_code (6 : Nat) (Option.some Jvm.ClassFile.FieldType.int) [((0 : Nat), (12 : Nat), (15 : Nat), (19 : Nat)), ((0 : Nat), (12 : Nat), (19 : Nat), (27 : Nat))]) ∈ gb := gm_5 208 rfl rfl
theorem kw_1169 : (Jvm.Cond.methodLink "JoinedTreesLaw" (82 : Nat) ({ cls := "JoinedTrees", name := "index", desc := "(III)I" } : Jvm.MethodName)) ∈ gb := gm_5 209 rfl rfl
theorem kw_1170 : (Jvm.Cond.instanceMethod ({ cls := "JoinedTrees", name := "index", desc := "(III)I" } : Jvm.MethodName)) ∈ gb := gm_5 210 rfl rfl
theorem kw_1171 : (Jvm.Cond.selects "JoinedTrees" ({ cls := "JoinedTrees", name := "index", desc := "(III)I" } : Jvm.MethodName) ({ cls := "JoinedTrees", name := "index", desc := "(III)I" } : Jvm.MethodName)) ∈ gb := gm_5 211 rfl rfl
theorem kw_1172 : (Jvm.Cond.code ({ cls := "JoinedTrees", name := "index", desc := "(III)I" } : Jvm.MethodName) prog_1_method_21_code (6 : Nat) (Option.some Jvm.ClassFile.FieldType.int)) ∈ gb := gm_5 212 rfl rfl
theorem kw_1173 : (Jvm.Cond.methodLink "JoinedTrees" (320 : Nat) ({ cls := "JoinedTrees$View", name := "filledBefore", desc := "(LJoinedTrees$Spot;LJoinedTrees$Op;)I" } : Jvm.MethodName)) ∈ gb := gm_5 213 rfl rfl
theorem kw_1174 : (Jvm.Cond.methodLink "JoinedTreesLaw" (189 : Nat) ({ cls := "JoinedTreesLaw", name := "find", desc := "(LJoinedTrees;I[J)I" } : Jvm.MethodName)) ∈ gb := gm_5 214 rfl rfl
theorem kw_1175 : (Jvm.Cond.static ({ cls := "JoinedTreesLaw", name := "find", desc := "(LJoinedTrees;I[J)I" } : Jvm.MethodName)) ∈ gb := gm_5 215 rfl rfl
theorem kw_1176 : (Jvm.Cond.codeWith ({ cls := "JoinedTreesLaw", name := "find", desc := "(LJoinedTrees;I[J)I" } : Jvm.MethodName) method_23_code (4 : Nat) (Option.some Jvm.ClassFile.FieldType.int) [((0 : Nat), (9 : Nat), (12 : Nat), (19 : Nat)), ((0 : Nat), (9 : Nat), (15 : Nat), (27 : Nat))]) ∈ gb := gm_5 216 rfl rfl
theorem kw_1177 : (Jvm.Cond.methodLink "JoinedTreesLaw" (85 : Nat) ({ cls := "JoinedTrees", name := "find", desc := "(I)I" } : Jvm.MethodName)) ∈ gb := gm_5 217 rfl rfl
theorem kw_1178 : (Jvm.Cond.instanceMethod ({ cls := "JoinedTrees", name := "find", desc := "(I)I" } : Jvm.MethodName)) ∈ gb := gm_5 218 rfl rfl
theorem kw_1179 : (Jvm.Cond.selects "JoinedTrees" ({ cls := "JoinedTrees", name := "find", desc := "(I)I" } : Jvm.MethodName) ({ cls := "JoinedTrees", name := "find", desc := "(I)I" } : Jvm.MethodName)) ∈ gb := gm_5 219 rfl rfl
theorem kw_1180 : (Jvm.Cond.code ({ cls := "JoinedTrees", name := "find", desc := "(I)I" } : Jvm.MethodName) prog_1_method_22_code (7 : Nat) (Option.some Jvm.ClassFile.FieldType.int)) ∈ gb := gm_5 220 rfl rfl
theorem kw_1181 : (Jvm.Cond.methodLink "JoinedTrees" (324 : Nat) ({ cls := "JoinedTrees", name := "isPath", desc := "()Z" } : Jvm.MethodName)) ∈ gb := gm_5 221 rfl rfl
theorem kw_1183 : (Jvm.Cond.instanceMethod ({ cls := "JoinedTrees", name := "isPath", desc := "()Z" } : Jvm.MethodName)) ∈ gb := gm_5 223 rfl rfl
theorem kw_1184 : (Jvm.Cond.code ({ cls := "JoinedTrees", name := "isPath", desc := "()Z" } : Jvm.MethodName) prog_1_method_53_code (3 : Nat) (Option.some Jvm.ClassFile.FieldType.boolean)) ∈ gb := gm_5 224 rfl rfl
theorem kw_1185 : (Jvm.Cond.methodLink "JoinedTrees" (331 : Nat) ({ cls := "JoinedTrees", name := "stepEnd", desc := "(I)I" } : Jvm.MethodName)) ∈ gb := gm_5 225 rfl rfl
theorem kw_1187 : (Jvm.Cond.instanceMethod ({ cls := "JoinedTrees", name := "stepEnd", desc := "(I)I" } : Jvm.MethodName)) ∈ gb := gm_5 227 rfl rfl
theorem kw_1188 : (Jvm.Cond.code ({ cls := "JoinedTrees", name := "stepEnd", desc := "(I)I" } : Jvm.MethodName) prog_1_method_54_code (3 : Nat) (Option.some Jvm.ClassFile.FieldType.int)) ∈ gb := gm_5 228 rfl rfl
theorem kw_1189 : (Jvm.Cond.methodLink "JoinedTrees" (470 : Nat) ({ cls := "JoinedTrees", name := "keyEnd", desc := "(I)I" } : Jvm.MethodName)) ∈ gb := gm_5 229 rfl rfl
theorem kw_1191 : (Jvm.Cond.instanceMethod ({ cls := "JoinedTrees", name := "keyEnd", desc := "(I)I" } : Jvm.MethodName)) ∈ gb := gm_5 231 rfl rfl
theorem kw_1192 : (Jvm.Cond.code ({ cls := "JoinedTrees", name := "keyEnd", desc := "(I)I" } : Jvm.MethodName) prog_1_method_55_code (4 : Nat) (Option.some Jvm.ClassFile.FieldType.int)) ∈ gb := gm_5 232 rfl rfl
theorem kw_1193 : (Jvm.Cond.methodLink "JoinedTrees" (476 : Nat) ({ cls := "JoinedTrees", name := "isPathSign", desc := "(I)Z" } : Jvm.MethodName)) ∈ gb := gm_5 233 rfl rfl
theorem kw_1194 : (Jvm.Cond.static ({ cls := "JoinedTrees", name := "isPathSign", desc := "(I)Z" } : Jvm.MethodName)) ∈ gb := gm_5 234 rfl rfl
theorem kw_1195 : (Jvm.Cond.code ({ cls := "JoinedTrees", name := "isPathSign", desc := "(I)Z" } : Jvm.MethodName) prog_1_method_57_code (1 : Nat) (Option.some Jvm.ClassFile.FieldType.boolean)) ∈ gb := gm_5 235 rfl rfl
theorem kw_1196 : (Jvm.Cond.methodLink "JoinedTrees" (480 : Nat) ({ cls := "JoinedTrees", name := "isDigit", desc := "(I)Z" } : Jvm.MethodName)) ∈ gb := gm_5 236 rfl rfl
theorem kw_1197 : (Jvm.Cond.methodLink "JoinedTrees" (473 : Nat) ({ cls := "JoinedTrees", name := "indexEnd", desc := "(I)I" } : Jvm.MethodName)) ∈ gb := gm_5 237 rfl rfl
theorem kw_1199 : (Jvm.Cond.instanceMethod ({ cls := "JoinedTrees", name := "indexEnd", desc := "(I)I" } : Jvm.MethodName)) ∈ gb := gm_5 239 rfl rfl
theorem kw_1200 : (Jvm.Cond.code ({ cls := "JoinedTrees", name := "indexEnd", desc := "(I)I" } : Jvm.MethodName) prog_1_method_56_code (4 : Nat) (Option.some Jvm.ClassFile.FieldType.int)) ∈ gb := gm_6 0 rfl rfl
theorem kw_1201 : (Jvm.Cond.methodLink "JoinedTrees" (334 : Nat) ({ cls := "JoinedTrees", name := "elementOf", desc := "(LJoinedTrees$Op;II)LJoinedTrees$Op;" } : Jvm.MethodName)) ∈ gb := gm_6 1 rfl rfl
theorem kw_1203 : (Jvm.Cond.instanceMethod ({ cls := "JoinedTrees", name := "elementOf", desc := "(LJoinedTrees$Op;II)LJoinedTrees$Op;" } : Jvm.MethodName)) ∈ gb := gm_6 3 rfl rfl
theorem kw_1204 : (Jvm.Cond.code ({ cls := "JoinedTrees", name := "elementOf", desc := "(LJoinedTrees$Op;II)LJoinedTrees$Op;" } : Jvm.MethodName) prog_1_method_60_code (6 : Nat) (Option.some (Jvm.ClassFile.FieldType.object "JoinedTrees$Op"))) ∈ gb := gm_6 4 rfl rfl
theorem kw_1205 : (Jvm.Cond.methodLink "JoinedTrees" (338 : Nat) ({ cls := "JoinedTrees", name := "keyOf", desc := "(LJoinedTrees$Op;II)LJoinedTrees$Op;" } : Jvm.MethodName)) ∈ gb := gm_6 5 rfl rfl
theorem kw_1207 : (Jvm.Cond.instanceMethod ({ cls := "JoinedTrees", name := "keyOf", desc := "(LJoinedTrees$Op;II)LJoinedTrees$Op;" } : Jvm.MethodName)) ∈ gb := gm_6 7 rfl rfl
theorem kw_1208 : (Jvm.Cond.code ({ cls := "JoinedTrees", name := "keyOf", desc := "(LJoinedTrees$Op;II)LJoinedTrees$Op;" } : Jvm.MethodName) prog_1_method_59_code (5 : Nat) (Option.some (Jvm.ClassFile.FieldType.object "JoinedTrees$Op"))) ∈ gb := gm_6 8 rfl rfl
theorem kw_1209 : (Jvm.Cond.methodLink "JoinedTreesLaw" (192 : Nat) ({ cls := "JoinedTreesLaw", name := "text", desc := "(LJoinedTrees;II[J)I" } : Jvm.MethodName)) ∈ gb := gm_6 9 rfl rfl
theorem kw_1210 : (Jvm.Cond.static ({ cls := "JoinedTreesLaw", name := "text", desc := "(LJoinedTrees;II[J)I" } : Jvm.MethodName)) ∈ gb := gm_6 10 rfl rfl
theorem kw_1211 : (Jvm.Cond.codeWith ({ cls := "JoinedTreesLaw", name := "text", desc := "(LJoinedTrees;II[J)I" } : Jvm.MethodName) method_24_code (5 : Nat) (Option.some Jvm.ClassFile.FieldType.int) [((0 : Nat), (10 : Nat), (13 : Nat), (19 : Nat)), ((0 : Nat), (10 : Nat), (17 : Nat), (25 : Nat)), ((0 : Nat), (10 : Nat), (21 : Nat), (27 : Nat))]) ∈ gb := gm_6 11 rfl rfl
theorem kw_1212 : (Jvm.Cond.methodLink "JoinedTreesLaw" (88 : Nat) ({ cls := "JoinedTrees", name := "text", desc := "(II)I" } : Jvm.MethodName)) ∈ gb := gm_6 12 rfl rfl
theorem kw_1213 : (Jvm.Cond.instanceMethod ({ cls := "JoinedTrees", name := "text", desc := "(II)I" } : Jvm.MethodName)) ∈ gb := gm_6 13 rfl rfl
theorem kw_1214 : (Jvm.Cond.selects "JoinedTrees" ({ cls := "JoinedTrees", name := "text", desc := "(II)I" } : Jvm.MethodName) ({ cls := "JoinedTrees", name := "text", desc := "(II)I" } : Jvm.MethodName)) ∈ gb := gm_6 14 rfl rfl
theorem kw_1215 : (Jvm.Cond.code ({ cls := "JoinedTrees", name := "text", desc := "(II)I" } : Jvm.MethodName) prog_1_method_23_code (4 : Nat) (Option.some Jvm.ClassFile.FieldType.int)) ∈ gb := gm_6 15 rfl rfl
theorem kw_1216 : (Jvm.Cond.methodLink "JoinedTrees" (341 : Nat) ({ cls := "JoinedTrees$JsonWriter", name := "writeObject", desc := "(LJoinedTrees$Op;)LJoinedTrees$Row;" } : Jvm.MethodName)) ∈ gb := gm_6 16 rfl rfl
theorem kw_1217 : (Jvm.Cond.instanceMethod ({ cls := "JoinedTrees$JsonWriter", name := "writeObject", desc := "(LJoinedTrees$Op;)LJoinedTrees$Row;" } : Jvm.MethodName)) ∈ gb := gm_6 17 rfl rfl
theorem kw_1218 : (Jvm.Cond.selects "JoinedTrees$JsonWriter" ({ cls := "JoinedTrees$JsonWriter", name := "writeObject", desc := "(LJoinedTrees$Op;)LJoinedTrees$Row;" } : Jvm.MethodName) ({ cls := "JoinedTrees$JsonWriter", name := "writeObject", desc := "(LJoinedTrees$Op;)LJoinedTrees$Row;" } : Jvm.MethodName)) ∈ gb := gm_6 18 rfl rfl
theorem kw_1219 : (Jvm.Cond.code ({ cls := "JoinedTrees$JsonWriter", name := "writeObject", desc := "(LJoinedTrees$Op;)LJoinedTrees$Row;" } : Jvm.MethodName) prog_4_method_2_code (8 : Nat) (Option.some (Jvm.ClassFile.FieldType.object "JoinedTrees$Row"))) ∈ gb := gm_6 19 rfl rfl
theorem kw_1220 : (Jvm.Cond.methodLink "JoinedTrees$JsonWriter" (24 : Nat) ({ cls := "JoinedTrees$Row", name := "clear", desc := "()V" } : Jvm.MethodName)) ∈ gb := gm_6 20 rfl rfl
theorem kw_1221 : (Jvm.Cond.methodLink "JoinedTrees$JsonWriter" (33 : Nat) ({ cls := "JoinedTrees$JsonWriter", name := "writePlain", desc := "(LJoinedTrees$Op;)V" } : Jvm.MethodName)) ∈ gb := gm_6 21 rfl rfl
theorem kw_1222 : (Jvm.Cond.instanceMethod ({ cls := "JoinedTrees$JsonWriter", name := "writePlain", desc := "(LJoinedTrees$Op;)V" } : Jvm.MethodName)) ∈ gb := gm_6 22 rfl rfl
theorem kw_1223 : (Jvm.Cond.selects "JoinedTrees$JsonWriter" ({ cls := "JoinedTrees$JsonWriter", name := "writePlain", desc := "(LJoinedTrees$Op;)V" } : Jvm.MethodName) ({ cls := "JoinedTrees$JsonWriter", name := "writePlain", desc := "(LJoinedTrees$Op;)V" } : Jvm.MethodName)) ∈ gb := gm_6 23 rfl rfl
theorem kw_1224 : (Jvm.Cond.code ({ cls := "JoinedTrees$JsonWriter", name := "writePlain", desc := "(LJoinedTrees$Op;)V" } : Jvm.MethodName) prog_4_method_5_code (2 : Nat) (Option.none : Option Jvm.ClassFile.FieldType)) ∈ gb := gm_6 24 rfl rfl
theorem kw_1226 : (Jvm.Cond.methodLink "JoinedTrees$JsonWriter" (92 : Nat) ({ cls := "JoinedTrees$JsonWriter", name := "writeWord", desc := "(Ljava/lang/String;)V" } : Jvm.MethodName)) ∈ gb := gm_6 26 rfl rfl
theorem kw_1227 : (Jvm.Cond.instanceMethod ({ cls := "JoinedTrees$JsonWriter", name := "writeWord", desc := "(Ljava/lang/String;)V" } : Jvm.MethodName)) ∈ gb := gm_6 27 rfl rfl
theorem kw_1228 : (Jvm.Cond.selects "JoinedTrees$JsonWriter" ({ cls := "JoinedTrees$JsonWriter", name := "writeWord", desc := "(Ljava/lang/String;)V" } : Jvm.MethodName) ({ cls := "JoinedTrees$JsonWriter", name := "writeWord", desc := "(Ljava/lang/String;)V" } : Jvm.MethodName)) ∈ gb := gm_6 28 rfl rfl
theorem kw_1229 : (Jvm.Cond.code ({ cls := "JoinedTrees$JsonWriter", name := "writeWord", desc := "(Ljava/lang/String;)V" } : Jvm.MethodName) prog_4_method_6_code (3 : Nat) (Option.none : Option Jvm.ClassFile.FieldType)) ∈ gb := gm_6 29 rfl rfl
theorem kw_1230 : (Jvm.Cond.methodLink "JoinedTrees$JsonWriter" (114 : Nat) ({ cls := "java/lang/String", name := "length", desc := "()I" } : Jvm.MethodName)) ∈ gb := gm_6 30 rfl rfl
theorem kw_1231 : (Jvm.Cond.methodLink "JoinedTrees$JsonWriter" (119 : Nat) ({ cls := "java/lang/String", name := "charAt", desc := "(I)C" } : Jvm.MethodName)) ∈ gb := gm_6 31 rfl rfl
theorem kw_1232 : (Jvm.Cond.methodLink "JoinedTrees$JsonWriter" (51 : Nat) ({ cls := "JoinedTrees$Row", name := "write", desc := "(I)V" } : Jvm.MethodName)) ∈ gb := gm_6 32 rfl rfl
theorem kw_1235 : (Jvm.Cond.methodLink "JoinedTrees$JsonWriter" (86 : Nat) ({ cls := "JoinedTrees$JsonWriter", name := "writeLetters", desc := "(II)V" } : Jvm.MethodName)) ∈ gb := gm_6 35 rfl rfl
theorem kw_1236 : (Jvm.Cond.instanceMethod ({ cls := "JoinedTrees$JsonWriter", name := "writeLetters", desc := "(II)V" } : Jvm.MethodName)) ∈ gb := gm_6 36 rfl rfl
theorem kw_1237 : (Jvm.Cond.selects "JoinedTrees$JsonWriter" ({ cls := "JoinedTrees$JsonWriter", name := "writeLetters", desc := "(II)V" } : Jvm.MethodName) ({ cls := "JoinedTrees$JsonWriter", name := "writeLetters", desc := "(II)V" } : Jvm.MethodName)) ∈ gb := gm_6 37 rfl rfl
theorem kw_1238 : (Jvm.Cond.code ({ cls := "JoinedTrees$JsonWriter", name := "writeLetters", desc := "(II)V" } : Jvm.MethodName) prog_4_method_8_code (4 : Nat) (Option.none : Option Jvm.ClassFile.FieldType)) ∈ gb := gm_6 38 rfl rfl
theorem kw_1239 : (Jvm.Cond.methodLink "JoinedTrees$JsonWriter" (76 : Nat) ({ cls := "JoinedTrees$Row", name := "at", desc := "(I)I" } : Jvm.MethodName)) ∈ gb := gm_6 39 rfl rfl
theorem kw_1240 : (Jvm.Cond.methodLink "JoinedTrees$JsonWriter" (132 : Nat) ({ cls := "JoinedTrees$JsonWriter", name := "writeLetter", desc := "(I)V" } : Jvm.MethodName)) ∈ gb := gm_6 40 rfl rfl
theorem kw_1241 : (Jvm.Cond.instanceMethod ({ cls := "JoinedTrees$JsonWriter", name := "writeLetter", desc := "(I)V" } : Jvm.MethodName)) ∈ gb := gm_6 41 rfl rfl
theorem kw_1242 : (Jvm.Cond.selects "JoinedTrees$JsonWriter" ({ cls := "JoinedTrees$JsonWriter", name := "writeLetter", desc := "(I)V" } : Jvm.MethodName) ({ cls := "JoinedTrees$JsonWriter", name := "writeLetter", desc := "(I)V" } : Jvm.MethodName)) ∈ gb := gm_6 42 rfl rfl
theorem kw_1243 : (Jvm.Cond.code ({ cls := "JoinedTrees$JsonWriter", name := "writeLetter", desc := "(I)V" } : Jvm.MethodName) prog_4_method_9_code (4 : Nat) (Option.none : Option Jvm.ClassFile.FieldType)) ∈ gb := gm_6 43 rfl rfl
theorem kw_1244 : (Jvm.Cond.methodLink "JoinedTrees$JsonWriter" (135 : Nat) ({ cls := "JoinedTrees$JsonWriter", name := "hexSign", desc := "(I)I" } : Jvm.MethodName)) ∈ gb := gm_6 44 rfl rfl
theorem kw_1245 : (Jvm.Cond.static ({ cls := "JoinedTrees$JsonWriter", name := "hexSign", desc := "(I)I" } : Jvm.MethodName)) ∈ gb := gm_6 45 rfl rfl
theorem kw_1246 : (Jvm.Cond.code ({ cls := "JoinedTrees$JsonWriter", name := "hexSign", desc := "(I)I" } : Jvm.MethodName) prog_4_method_10_code (1 : Nat) (Option.some Jvm.ClassFile.FieldType.int)) ∈ gb := gm_6 46 rfl rfl
theorem kw_1247 : (Jvm.Cond.methodLink "JoinedTrees$JsonWriter" (103 : Nat) ({ cls := "JoinedTrees$JsonWriter", name := "writeElements", desc := "(LJoinedTrees$Op;)V" } : Jvm.MethodName)) ∈ gb := gm_6 47 rfl rfl
theorem kw_1248 : (Jvm.Cond.instanceMethod ({ cls := "JoinedTrees$JsonWriter", name := "writeElements", desc := "(LJoinedTrees$Op;)V" } : Jvm.MethodName)) ∈ gb := gm_6 48 rfl rfl
theorem kw_1249 : (Jvm.Cond.selects "JoinedTrees$JsonWriter" ({ cls := "JoinedTrees$JsonWriter", name := "writeElements", desc := "(LJoinedTrees$Op;)V" } : Jvm.MethodName) ({ cls := "JoinedTrees$JsonWriter", name := "writeElements", desc := "(LJoinedTrees$Op;)V" } : Jvm.MethodName)) ∈ gb := gm_6 49 rfl rfl
theorem kw_1250 : (Jvm.Cond.code ({ cls := "JoinedTrees$JsonWriter", name := "writeElements", desc := "(LJoinedTrees$Op;)V" } : Jvm.MethodName) prog_4_method_7_code (4 : Nat) (Option.none : Option Jvm.ClassFile.FieldType)) ∈ gb := gm_6 50 rfl rfl
theorem kw_1251 : (Jvm.Cond.methodLink "JoinedTrees$JsonWriter" (45 : Nat) ({ cls := "JoinedTrees$View", name := "top", desc := "(LJoinedTrees$Spot;)LJoinedTrees$Op;" } : Jvm.MethodName)) ∈ gb := gm_6 51 rfl rfl
theorem kw_1252 : (Jvm.Cond.methodLink "JoinedTrees$JsonWriter" (106 : Nat) ({ cls := "JoinedTrees$View", name := "numberOf", desc := "(LJoinedTrees$Op;)J" } : Jvm.MethodName)) ∈ gb := gm_6 52 rfl rfl
theorem kw_1253 : (Jvm.Cond.methodLink "JoinedTrees$JsonWriter" (110 : Nat) ({ cls := "JoinedTrees$JsonWriter", name := "writeLong", desc := "(J)V" } : Jvm.MethodName)) ∈ gb := gm_6 53 rfl rfl
theorem kw_1254 : (Jvm.Cond.instanceMethod ({ cls := "JoinedTrees$JsonWriter", name := "writeLong", desc := "(J)V" } : Jvm.MethodName)) ∈ gb := gm_6 54 rfl rfl
theorem kw_1255 : (Jvm.Cond.selects "JoinedTrees$JsonWriter" ({ cls := "JoinedTrees$JsonWriter", name := "writeLong", desc := "(J)V" } : Jvm.MethodName) ({ cls := "JoinedTrees$JsonWriter", name := "writeLong", desc := "(J)V" } : Jvm.MethodName)) ∈ gb := gm_6 55 rfl rfl
theorem kw_1256 : (Jvm.Cond.code ({ cls := "JoinedTrees$JsonWriter", name := "writeLong", desc := "(J)V" } : Jvm.MethodName) prog_4_method_11_code (8 : Nat) (Option.none : Option Jvm.ClassFile.FieldType)) ∈ gb := gm_6 56 rfl rfl
theorem kw_1257 : (Jvm.Cond.constantLong "JoinedTrees$JsonWriter" (138 : Nat) (-10 : Int64)) ∈ gb := gm_6 57 rfl rfl
theorem kw_1258 : (Jvm.Cond.constantLong "JoinedTrees$JsonWriter" (140 : Nat) (10 : Int64)) ∈ gb := gm_6 58 rfl rfl
theorem kw_1259 : (Jvm.Cond.methodLink "JoinedTrees$JsonWriter" (37 : Nat) ({ cls := "JoinedTrees$JsonWriter", name := "enter", desc := "(LJoinedTrees$Op;)LJoinedTrees$Spot;" } : Jvm.MethodName)) ∈ gb := gm_6 59 rfl rfl
theorem kw_1260 : (Jvm.Cond.instanceMethod ({ cls := "JoinedTrees$JsonWriter", name := "enter", desc := "(LJoinedTrees$Op;)LJoinedTrees$Spot;" } : Jvm.MethodName)) ∈ gb := gm_6 60 rfl rfl
theorem kw_1261 : (Jvm.Cond.selects "JoinedTrees$JsonWriter" ({ cls := "JoinedTrees$JsonWriter", name := "enter", desc := "(LJoinedTrees$Op;)LJoinedTrees$Spot;" } : Jvm.MethodName) ({ cls := "JoinedTrees$JsonWriter", name := "enter", desc := "(LJoinedTrees$Op;)LJoinedTrees$Spot;" } : Jvm.MethodName)) ∈ gb := gm_6 61 rfl rfl
theorem kw_1262 : (Jvm.Cond.code ({ cls := "JoinedTrees$JsonWriter", name := "enter", desc := "(LJoinedTrees$Op;)LJoinedTrees$Spot;" } : Jvm.MethodName) prog_4_method_3_code (2 : Nat) (Option.some (Jvm.ClassFile.FieldType.object "JoinedTrees$Spot"))) ∈ gb := gm_6 62 rfl rfl
theorem kw_1263 : (Jvm.Cond.methodLink "JoinedTrees$JsonWriter" (67 : Nat) ({ cls := "JoinedTrees$JsonWriter", name := "writeBefore", desc := "(LJoinedTrees$Op;)V" } : Jvm.MethodName)) ∈ gb := gm_6 63 rfl rfl
theorem kw_1264 : (Jvm.Cond.instanceMethod ({ cls := "JoinedTrees$JsonWriter", name := "writeBefore", desc := "(LJoinedTrees$Op;)V" } : Jvm.MethodName)) ∈ gb := gm_6 64 rfl rfl
theorem kw_1265 : (Jvm.Cond.selects "JoinedTrees$JsonWriter" ({ cls := "JoinedTrees$JsonWriter", name := "writeBefore", desc := "(LJoinedTrees$Op;)V" } : Jvm.MethodName) ({ cls := "JoinedTrees$JsonWriter", name := "writeBefore", desc := "(LJoinedTrees$Op;)V" } : Jvm.MethodName)) ∈ gb := gm_6 65 rfl rfl
theorem kw_1266 : (Jvm.Cond.code ({ cls := "JoinedTrees$JsonWriter", name := "writeBefore", desc := "(LJoinedTrees$Op;)V" } : Jvm.MethodName) prog_4_method_4_code (3 : Nat) (Option.none : Option Jvm.ClassFile.FieldType)) ∈ gb := gm_6 66 rfl rfl
theorem kw_1267 : (Jvm.Cond.methodLink "JoinedTrees" (348 : Nat) ({ cls := "JoinedTrees$Row", name := "writeAll", desc := "(LJoinedTrees$Row;II)V" } : Jvm.MethodName)) ∈ gb := gm_6 67 rfl rfl
theorem kw_1268 : (Jvm.Cond.methodLink "JoinedTreesLaw" (195 : Nat) ({ cls := "JoinedTreesLaw", name := "save", desc := "(LJoinedTrees;I[J)I" } : Jvm.MethodName)) ∈ gb := gm_6 68 rfl rfl
theorem kw_1269 : (Jvm.Cond.static ({ cls := "JoinedTreesLaw", name := "save", desc := "(LJoinedTrees;I[J)I" } : Jvm.MethodName)) ∈ gb := gm_6 69 rfl rfl
theorem kw_1270 : (Jvm.Cond.codeWith ({ cls := "JoinedTreesLaw", name := "save", desc := "(LJoinedTrees;I[J)I" } : Jvm.MethodName) method_25_code (4 : Nat) (Option.some Jvm.ClassFile.FieldType.int) [((0 : Nat), (9 : Nat), (12 : Nat), (19 : Nat)), ((0 : Nat), (9 : Nat), (15 : Nat), (25 : Nat))]) ∈ gb := gm_6 70 rfl rfl
theorem kw_1271 : (Jvm.Cond.methodLink "JoinedTreesLaw" (91 : Nat) ({ cls := "JoinedTrees", name := "save", desc := "(I)I" } : Jvm.MethodName)) ∈ gb := gm_6 71 rfl rfl
theorem kw_1272 : (Jvm.Cond.instanceMethod ({ cls := "JoinedTrees", name := "save", desc := "(I)I" } : Jvm.MethodName)) ∈ gb := gm_6 72 rfl rfl
theorem kw_1273 : (Jvm.Cond.selects "JoinedTrees" ({ cls := "JoinedTrees", name := "save", desc := "(I)I" } : Jvm.MethodName) ({ cls := "JoinedTrees", name := "save", desc := "(I)I" } : Jvm.MethodName)) ∈ gb := gm_6 73 rfl rfl
theorem kw_1274 : (Jvm.Cond.code ({ cls := "JoinedTrees", name := "save", desc := "(I)I" } : Jvm.MethodName) prog_1_method_24_code (3 : Nat) (Option.some Jvm.ClassFile.FieldType.int)) ∈ gb := gm_6 74 rfl rfl
theorem kw_1275 : (Jvm.Cond.methodLink "JoinedTrees" (355 : Nat) ({ cls := "JoinedTrees$Saver", name := "writeSaved", desc := "(LJoinedTrees$Replica;)V" } : Jvm.MethodName)) ∈ gb := gm_6 75 rfl rfl
theorem kw_1276 : (Jvm.Cond.instanceMethod ({ cls := "JoinedTrees$Saver", name := "writeSaved", desc := "(LJoinedTrees$Replica;)V" } : Jvm.MethodName)) ∈ gb := gm_6 76 rfl rfl
theorem kw_1277 : (Jvm.Cond.selects "JoinedTrees$Saver" ({ cls := "JoinedTrees$Saver", name := "writeSaved", desc := "(LJoinedTrees$Replica;)V" } : Jvm.MethodName) ({ cls := "JoinedTrees$Saver", name := "writeSaved", desc := "(LJoinedTrees$Replica;)V" } : Jvm.MethodName)) ∈ gb := gm_6 77 rfl rfl
theorem kw_1278 : (Jvm.Cond.code ({ cls := "JoinedTrees$Saver", name := "writeSaved", desc := "(LJoinedTrees$Replica;)V" } : Jvm.MethodName) prog_8_method_2_code (5 : Nat) (Option.none : Option Jvm.ClassFile.FieldType)) ∈ gb := gm_6 78 rfl rfl
theorem kw_1279 : (Jvm.Cond.methodLink "JoinedTrees$Saver" (27 : Nat) ({ cls := "JoinedTrees$Row", name := "clear", desc := "()V" } : Jvm.MethodName)) ∈ gb := gm_6 79 rfl rfl
theorem kw_1280 : (Jvm.Cond.methodLink "JoinedTrees$Saver" (38 : Nat) ({ cls := "JoinedTrees$Saver", name := "emitNumber", desc := "(J)V" } : Jvm.MethodName)) ∈ gb := gm_6 80 rfl rfl
theorem kw_1281 : (Jvm.Cond.instanceMethod ({ cls := "JoinedTrees$Saver", name := "emitNumber", desc := "(J)V" } : Jvm.MethodName)) ∈ gb := gm_6 81 rfl rfl
theorem kw_1282 : (Jvm.Cond.selects "JoinedTrees$Saver" ({ cls := "JoinedTrees$Saver", name := "emitNumber", desc := "(J)V" } : Jvm.MethodName) ({ cls := "JoinedTrees$Saver", name := "emitNumber", desc := "(J)V" } : Jvm.MethodName)) ∈ gb := gm_6 82 rfl rfl
theorem kw_1283 : (Jvm.Cond.code ({ cls := "JoinedTrees$Saver", name := "emitNumber", desc := "(J)V" } : Jvm.MethodName) prog_8_method_6_code (6 : Nat) (Option.none : Option Jvm.ClassFile.FieldType)) ∈ gb := gm_6 83 rfl rfl
theorem kw_1284 : (Jvm.Cond.constantLong "JoinedTrees$Saver" (98 : Nat) (127 : Int64)) ∈ gb := gm_6 84 rfl rfl
theorem kw_1285 : (Jvm.Cond.methodLink "JoinedTrees$Saver" (86 : Nat) ({ cls := "JoinedTrees$Saver", name := "emit", desc := "(I)V" } : Jvm.MethodName)) ∈ gb := gm_6 85 rfl rfl
theorem kw_1286 : (Jvm.Cond.instanceMethod ({ cls := "JoinedTrees$Saver", name := "emit", desc := "(I)V" } : Jvm.MethodName)) ∈ gb := gm_6 86 rfl rfl
theorem kw_1287 : (Jvm.Cond.selects "JoinedTrees$Saver" ({ cls := "JoinedTrees$Saver", name := "emit", desc := "(I)V" } : Jvm.MethodName) ({ cls := "JoinedTrees$Saver", name := "emit", desc := "(I)V" } : Jvm.MethodName)) ∈ gb := gm_6 87 rfl rfl
theorem kw_1288 : (Jvm.Cond.code ({ cls := "JoinedTrees$Saver", name := "emit", desc := "(I)V" } : Jvm.MethodName) prog_8_method_5_code (2 : Nat) (Option.none : Option Jvm.ClassFile.FieldType)) ∈ gb := gm_6 88 rfl rfl
theorem kw_1289 : (Jvm.Cond.methodLink "JoinedTrees$Saver" (95 : Nat) ({ cls := "JoinedTrees$Row", name := "write", desc := "(I)V" } : Jvm.MethodName)) ∈ gb := gm_6 89 rfl rfl
theorem kw_1290 : (Jvm.Cond.methodLink "JoinedTrees$Saver" (84 : Nat) ({ cls := "JoinedTrees$Row", name := "at", desc := "(I)I" } : Jvm.MethodName)) ∈ gb := gm_6 90 rfl rfl
theorem kw_1291 : (Jvm.Cond.methodLink "JoinedTrees$Saver" (55 : Nat) ({ cls := "JoinedTrees$Replica", name := "holds", desc := "(LJoinedTrees$Change;)Z" } : Jvm.MethodName)) ∈ gb := gm_6 91 rfl rfl
theorem kw_1292 : (Jvm.Cond.methodLink "JoinedTrees$Saver" (59 : Nat) ({ cls := "JoinedTrees$Saver", name := "emitChange", desc := "(LJoinedTrees$Change;)V" } : Jvm.MethodName)) ∈ gb := gm_6 92 rfl rfl
theorem kw_1293 : (Jvm.Cond.instanceMethod ({ cls := "JoinedTrees$Saver", name := "emitChange", desc := "(LJoinedTrees$Change;)V" } : Jvm.MethodName)) ∈ gb := gm_6 93 rfl rfl
theorem kw_1294 : (Jvm.Cond.selects "JoinedTrees$Saver" ({ cls := "JoinedTrees$Saver", name := "emitChange", desc := "(LJoinedTrees$Change;)V" } : Jvm.MethodName) ({ cls := "JoinedTrees$Saver", name := "emitChange", desc := "(LJoinedTrees$Change;)V" } : Jvm.MethodName)) ∈ gb := gm_6 94 rfl rfl
theorem kw_1295 : (Jvm.Cond.code ({ cls := "JoinedTrees$Saver", name := "emitChange", desc := "(LJoinedTrees$Change;)V" } : Jvm.MethodName) prog_8_method_8_code (4 : Nat) (Option.none : Option Jvm.ClassFile.FieldType)) ∈ gb := gm_6 95 rfl rfl
theorem kw_1296 : (Jvm.Cond.methodLink "JoinedTrees$Saver" (119 : Nat) ({ cls := "JoinedTrees$Saver", name := "emitOp", desc := "(LJoinedTrees$Op;)V" } : Jvm.MethodName)) ∈ gb := gm_6 96 rfl rfl
theorem kw_1297 : (Jvm.Cond.instanceMethod ({ cls := "JoinedTrees$Saver", name := "emitOp", desc := "(LJoinedTrees$Op;)V" } : Jvm.MethodName)) ∈ gb := gm_6 97 rfl rfl
theorem kw_1298 : (Jvm.Cond.selects "JoinedTrees$Saver" ({ cls := "JoinedTrees$Saver", name := "emitOp", desc := "(LJoinedTrees$Op;)V" } : Jvm.MethodName) ({ cls := "JoinedTrees$Saver", name := "emitOp", desc := "(LJoinedTrees$Op;)V" } : Jvm.MethodName)) ∈ gb := gm_6 98 rfl rfl
theorem kw_1299 : (Jvm.Cond.code ({ cls := "JoinedTrees$Saver", name := "emitOp", desc := "(LJoinedTrees$Op;)V" } : Jvm.MethodName) prog_8_method_9_code (4 : Nat) (Option.none : Option Jvm.ClassFile.FieldType)) ∈ gb := gm_6 99 rfl rfl
theorem kw_1300 : (Jvm.Cond.methodLink "JoinedTrees$Saver" (144 : Nat) ({ cls := "JoinedTrees$Saver", name := "emitBytes", desc := "(II)V" } : Jvm.MethodName)) ∈ gb := gm_6 100 rfl rfl
theorem kw_1301 : (Jvm.Cond.instanceMethod ({ cls := "JoinedTrees$Saver", name := "emitBytes", desc := "(II)V" } : Jvm.MethodName)) ∈ gb := gm_6 101 rfl rfl
theorem kw_1302 : (Jvm.Cond.selects "JoinedTrees$Saver" ({ cls := "JoinedTrees$Saver", name := "emitBytes", desc := "(II)V" } : Jvm.MethodName) ({ cls := "JoinedTrees$Saver", name := "emitBytes", desc := "(II)V" } : Jvm.MethodName)) ∈ gb := gm_6 102 rfl rfl
theorem kw_1303 : (Jvm.Cond.code ({ cls := "JoinedTrees$Saver", name := "emitBytes", desc := "(II)V" } : Jvm.MethodName) prog_8_method_7_code (4 : Nat) (Option.none : Option Jvm.ClassFile.FieldType)) ∈ gb := gm_6 103 rfl rfl
theorem kw_1304 : (Jvm.Cond.methodLink "JoinedTrees$Saver" (160 : Nat) ({ cls := "JoinedTrees$Op", name := "hasLong", desc := "()Z" } : Jvm.MethodName)) ∈ gb := gm_6 104 rfl rfl
theorem kw_1305 : (Jvm.Cond.instanceMethod ({ cls := "JoinedTrees$Op", name := "hasLong", desc := "()Z" } : Jvm.MethodName)) ∈ gb := gm_6 105 rfl rfl
theorem kw_1306 : (Jvm.Cond.selects "JoinedTrees$Op" ({ cls := "JoinedTrees$Op", name := "hasLong", desc := "()Z" } : Jvm.MethodName) ({ cls := "JoinedTrees$Op", name := "hasLong", desc := "()Z" } : Jvm.MethodName)) ∈ gb := gm_6 106 rfl rfl
theorem kw_1307 : (Jvm.Cond.code ({ cls := "JoinedTrees$Op", name := "hasLong", desc := "()Z" } : Jvm.MethodName) prog_5_method_3_code (1 : Nat) (Option.some Jvm.ClassFile.FieldType.boolean)) ∈ gb := gm_6 107 rfl rfl
theorem kw_1308 : (Jvm.Cond.methodLink "JoinedTrees$Saver" (66 : Nat) ({ cls := "JoinedTrees$Saver", name := "crcOf", desc := "(I)I" } : Jvm.MethodName)) ∈ gb := gm_6 108 rfl rfl
theorem kw_1309 : (Jvm.Cond.instanceMethod ({ cls := "JoinedTrees$Saver", name := "crcOf", desc := "(I)I" } : Jvm.MethodName)) ∈ gb := gm_6 109 rfl rfl
theorem kw_1310 : (Jvm.Cond.selects "JoinedTrees$Saver" ({ cls := "JoinedTrees$Saver", name := "crcOf", desc := "(I)I" } : Jvm.MethodName) ({ cls := "JoinedTrees$Saver", name := "crcOf", desc := "(I)I" } : Jvm.MethodName)) ∈ gb := gm_6 110 rfl rfl
theorem kw_1311 : (Jvm.Cond.code ({ cls := "JoinedTrees$Saver", name := "crcOf", desc := "(I)I" } : Jvm.MethodName) prog_8_method_10_code (4 : Nat) (Option.some Jvm.ClassFile.FieldType.int)) ∈ gb := gm_6 111 rfl rfl
theorem kw_1312 : (Jvm.Cond.methodLink "JoinedTrees$Saver" (89 : Nat) ({ cls := "java/lang/Math", name := "max", desc := "(II)I" } : Jvm.MethodName)) ∈ gb := gm_6 112 rfl rfl
theorem kw_1313 : (Jvm.Cond.fieldLink "JoinedTrees$Saver" (174 : Nat) "JoinedTrees$Saver" "CRC_OF_FOUR_BITS" "[I") ∈ gb := gm_6 113 rfl rfl
theorem kw_1315 : (Jvm.Cond.methodLink "JoinedTrees$Saver" (70 : Nat) ({ cls := "JoinedTrees$Row", name := "writeInt", desc := "(I)V" } : Jvm.MethodName)) ∈ gb := gm_6 115 rfl rfl
theorem kw_1316 : (Jvm.Cond.methodLink "JoinedTreesLaw" (198 : Nat) ({ cls := "JoinedTreesLaw", name := "load", desc := "(LJoinedTrees;I[J)I" } : Jvm.MethodName)) ∈ gb := gm_6 116 rfl rfl
theorem kw_1317 : (Jvm.Cond.static ({ cls := "JoinedTreesLaw", name := "load", desc := "(LJoinedTrees;I[J)I" } : Jvm.MethodName)) ∈ gb := gm_6 117 rfl rfl
theorem kw_1318 : (Jvm.Cond.codeWith ({ cls := "JoinedTreesLaw", name := "load", desc := "(LJoinedTrees;I[J)I" } : Jvm.MethodName) method_26_code (4 : Nat) (Option.some Jvm.ClassFile.FieldType.int) [((0 : Nat), (9 : Nat), (12 : Nat), (19 : Nat)), ((0 : Nat), (9 : Nat), (15 : Nat), (25 : Nat)), ((0 : Nat), (9 : Nat), (18 : Nat), (97 : Nat))]) ∈ gb := gm_6 118 rfl rfl
theorem kw_1319 : (Jvm.Cond.classLink "JoinedTreesLaw" (97 : Nat) "java/lang/ArithmeticException") ∈ gb := gm_6 119 rfl rfl
theorem kw_1320 : (Jvm.Cond.methodLink "JoinedTreesLaw" (94 : Nat) ({ cls := "JoinedTrees", name := "load", desc := "(I)I" } : Jvm.MethodName)) ∈ gb := gm_6 120 rfl rfl
theorem kw_1321 : (Jvm.Cond.instanceMethod ({ cls := "JoinedTrees", name := "load", desc := "(I)I" } : Jvm.MethodName)) ∈ gb := gm_6 121 rfl rfl
theorem kw_1322 : (Jvm.Cond.selects "JoinedTrees" ({ cls := "JoinedTrees", name := "load", desc := "(I)I" } : Jvm.MethodName) ({ cls := "JoinedTrees", name := "load", desc := "(I)I" } : Jvm.MethodName)) ∈ gb := gm_6 122 rfl rfl
theorem kw_1323 : (Jvm.Cond.code ({ cls := "JoinedTrees", name := "load", desc := "(I)I" } : Jvm.MethodName) prog_1_method_25_code (5 : Nat) (Option.some Jvm.ClassFile.FieldType.int)) ∈ gb := gm_6 123 rfl rfl
theorem kw_1324 : (Jvm.Cond.methodLink "JoinedTrees" (358 : Nat) ({ cls := "JoinedTrees$Saver", name := "isRight", desc := "()Z" } : Jvm.MethodName)) ∈ gb := gm_6 124 rfl rfl
theorem kw_1325 : (Jvm.Cond.instanceMethod ({ cls := "JoinedTrees$Saver", name := "isRight", desc := "()Z" } : Jvm.MethodName)) ∈ gb := gm_6 125 rfl rfl
theorem kw_1326 : (Jvm.Cond.selects "JoinedTrees$Saver" ({ cls := "JoinedTrees$Saver", name := "isRight", desc := "()Z" } : Jvm.MethodName) ({ cls := "JoinedTrees$Saver", name := "isRight", desc := "()Z" } : Jvm.MethodName)) ∈ gb := gm_6 126 rfl rfl
theorem kw_1327 : (Jvm.Cond.code ({ cls := "JoinedTrees$Saver", name := "isRight", desc := "()Z" } : Jvm.MethodName) prog_8_method_3_code (5 : Nat) (Option.some Jvm.ClassFile.FieldType.boolean)) ∈ gb := gm_6 127 rfl rfl
theorem kw_1328 : (Jvm.Cond.methodLink "JoinedTrees$Saver" (80 : Nat) ({ cls := "JoinedTrees$Saver", name := "changesTold", desc := "()I" } : Jvm.MethodName)) ∈ gb := gm_6 128 rfl rfl
theorem kw_1329 : (Jvm.Cond.instanceMethod ({ cls := "JoinedTrees$Saver", name := "changesTold", desc := "()I" } : Jvm.MethodName)) ∈ gb := gm_6 129 rfl rfl
theorem kw_1330 : (Jvm.Cond.selects "JoinedTrees$Saver" ({ cls := "JoinedTrees$Saver", name := "changesTold", desc := "()I" } : Jvm.MethodName) ({ cls := "JoinedTrees$Saver", name := "changesTold", desc := "()I" } : Jvm.MethodName)) ∈ gb := gm_6 130 rfl rfl
theorem kw_1331 : (Jvm.Cond.code ({ cls := "JoinedTrees$Saver", name := "changesTold", desc := "()I" } : Jvm.MethodName) prog_8_method_4_code (2 : Nat) (Option.some Jvm.ClassFile.FieldType.int)) ∈ gb := gm_6 131 rfl rfl
theorem kw_1332 : (Jvm.Cond.classLink "JoinedTrees" (361 : Nat) "java/lang/ArithmeticException") ∈ gb := gm_6 132 rfl rfl
theorem kw_1333 : (Jvm.Cond.instantiable "java/lang/ArithmeticException" (6 : Nat)) ∈ gb := gm_6 133 rfl rfl
theorem kw_1335 : (Jvm.Cond.selects "java/lang/ArithmeticException" ({ cls := "java/lang/Throwable", name := "fillInStackTrace", desc := "(I)Ljava/lang/Throwable;" } : Jvm.MethodName) ({ cls := "java/lang/Throwable", name := "fillInStackTrace", desc := "(I)Ljava/lang/Throwable;" } : Jvm.MethodName)) ∈ gb := gm_6 135 rfl rfl
theorem kw_1336 : (Jvm.Cond.lays "java/lang/ArithmeticException" "java/lang/Throwable" "cause" "Ljava/lang/Throwable;") ∈ gb := gm_6 136 rfl rfl
theorem kw_1337 : (Jvm.Cond.lays "java/lang/ArithmeticException" "java/lang/Throwable" "stackTrace" "[Ljava/lang/StackTraceElement;") ∈ gb := gm_6 137 rfl rfl
theorem kw_1338 : (Jvm.Cond.lays "java/lang/ArithmeticException" "java/lang/Throwable" "suppressedExceptions" "Ljava/util/List;") ∈ gb := gm_6 138 rfl rfl
theorem kw_1339 : (Jvm.Cond.lays "java/lang/ArithmeticException" "java/lang/Throwable" "detailMessage" "Ljava/lang/String;") ∈ gb := gm_6 139 rfl rfl
theorem kw_1340 : (Jvm.Cond.lays "java/lang/ArithmeticException" "java/lang/Throwable" "backtrace" "Ljava/lang/Object;") ∈ gb := gm_6 140 rfl rfl
theorem kw_1341 : (Jvm.Cond.methodLink "JoinedTrees" (363 : Nat) ({ cls := "java/lang/ArithmeticException", name := "<init>", desc := "()V" } : Jvm.MethodName)) ∈ gb := gm_6 141 rfl rfl
theorem kw_1342 : (Jvm.Cond.instanceMethod ({ cls := "java/lang/ArithmeticException", name := "<init>", desc := "()V" } : Jvm.MethodName)) ∈ gb := gm_6 142 rfl rfl
theorem kw_1343 : (Jvm.Cond.code ({ cls := "java/lang/ArithmeticException", name := "<init>", desc := "()V" } : Jvm.MethodName) prog_15_method_1_code (1 : Nat) (Option.none : Option Jvm.ClassFile.FieldType)) ∈ gb := gm_6 143 rfl rfl
theorem kw_1344 : (Jvm.Cond.methodLink "java/lang/ArithmeticException" (1 : Nat) ({ cls := "java/lang/RuntimeException", name := "<init>", desc := "()V" } : Jvm.MethodName)) ∈ gb := gm_6 144 rfl rfl
theorem kw_1345 : (Jvm.Cond.lays "java/lang/ArithmeticException" "java/lang/Throwable" "depth" "I") ∈ gb := gm_6 145 rfl rfl
theorem kw_1346 : (Jvm.Cond.superclass "java/lang/ArithmeticException" "java/lang/RuntimeException") ∈ gb := gm_6 146 rfl rfl
theorem kw_1347 : (Jvm.Cond.methodLink "JoinedTreesLaw" (201 : Nat) ({ cls := "JoinedTreesLaw", name := "harm", desc := "(LJoinedTrees;II)I" } : Jvm.MethodName)) ∈ gb := gm_6 147 rfl rfl
theorem kw_1348 : (Jvm.Cond.static ({ cls := "JoinedTreesLaw", name := "harm", desc := "(LJoinedTrees;II)I" } : Jvm.MethodName)) ∈ gb := gm_6 148 rfl rfl
theorem kw_1349 : (Jvm.Cond.codeWith ({ cls := "JoinedTreesLaw", name := "harm", desc := "(LJoinedTrees;II)I" } : Jvm.MethodName) method_27_code (4 : Nat) (Option.some Jvm.ClassFile.FieldType.int) [((0 : Nat), (6 : Nat), (9 : Nat), (19 : Nat)), ((0 : Nat), (6 : Nat), (12 : Nat), (27 : Nat))]) ∈ gb := gm_6 149 rfl rfl
theorem kw_1350 : (Jvm.Cond.methodLink "JoinedTreesLaw" (99 : Nat) ({ cls := "JoinedTrees", name := "harm", desc := "(II)V" } : Jvm.MethodName)) ∈ gb := gm_6 150 rfl rfl
theorem kw_1351 : (Jvm.Cond.instanceMethod ({ cls := "JoinedTrees", name := "harm", desc := "(II)V" } : Jvm.MethodName)) ∈ gb := gm_6 151 rfl rfl
theorem kw_1352 : (Jvm.Cond.selects "JoinedTrees" ({ cls := "JoinedTrees", name := "harm", desc := "(II)V" } : Jvm.MethodName) ({ cls := "JoinedTrees", name := "harm", desc := "(II)V" } : Jvm.MethodName)) ∈ gb := gm_6 152 rfl rfl
theorem kw_1353 : (Jvm.Cond.code ({ cls := "JoinedTrees", name := "harm", desc := "(II)V" } : Jvm.MethodName) prog_1_method_26_code (3 : Nat) (Option.none : Option Jvm.ClassFile.FieldType)) ∈ gb := gm_6 153 rfl rfl
theorem kw_1354 : (Jvm.Cond.methodLink "JoinedTreesLaw" (205 : Nat) ({ cls := "JoinedTreesLaw", name := "out", desc := "(LJoinedTrees;I[J)I" } : Jvm.MethodName)) ∈ gb := gm_6 154 rfl rfl
theorem kw_1355 : (Jvm.Cond.static ({ cls := "JoinedTreesLaw", name := "out", desc := "(LJoinedTrees;I[J)I" } : Jvm.MethodName)) ∈ gb := gm_6 155 rfl rfl
theorem kw_1356 : (Jvm.Cond.codeWith ({ cls := "JoinedTreesLaw", name := "out", desc := "(LJoinedTrees;I[J)I" } : Jvm.MethodName) method_28_code (4 : Nat) (Option.some Jvm.ClassFile.FieldType.int) [((0 : Nat), (8 : Nat), (11 : Nat), (19 : Nat))]) ∈ gb := gm_6 156 rfl rfl
theorem kw_1357 : (Jvm.Cond.methodLink "JoinedTreesLaw" (103 : Nat) ({ cls := "JoinedTrees", name := "out", desc := "(I)J" } : Jvm.MethodName)) ∈ gb := gm_6 157 rfl rfl
theorem kw_1358 : (Jvm.Cond.instanceMethod ({ cls := "JoinedTrees", name := "out", desc := "(I)J" } : Jvm.MethodName)) ∈ gb := gm_6 158 rfl rfl
theorem kw_1359 : (Jvm.Cond.selects "JoinedTrees" ({ cls := "JoinedTrees", name := "out", desc := "(I)J" } : Jvm.MethodName) ({ cls := "JoinedTrees", name := "out", desc := "(I)J" } : Jvm.MethodName)) ∈ gb := gm_6 159 rfl rfl
theorem kw_1360 : (Jvm.Cond.code ({ cls := "JoinedTrees", name := "out", desc := "(I)J" } : Jvm.MethodName) prog_1_method_27_code (5 : Nat) (Option.some Jvm.ClassFile.FieldType.long)) ∈ gb := gm_6 160 rfl rfl
theorem kw_1361 : (Jvm.Cond.methodLink "JoinedTrees" (378 : Nat) ({ cls := "java/lang/Math", name := "max", desc := "(II)I" } : Jvm.MethodName)) ∈ gb := gm_6 161 rfl rfl
theorem kw_1362 : (Jvm.Cond.methodLink "JoinedTreesLaw" (208 : Nat) ({ cls := "JoinedTreesLaw", name := "count", desc := "(LJoinedTrees;II[J)I" } : Jvm.MethodName)) ∈ gb := gm_6 162 rfl rfl
theorem kw_1363 : (Jvm.Cond.static ({ cls := "JoinedTreesLaw", name := "count", desc := "(LJoinedTrees;II[J)I" } : Jvm.MethodName)) ∈ gb := gm_6 163 rfl rfl
theorem kw_1364 : (Jvm.Cond.codeWith ({ cls := "JoinedTreesLaw", name := "count", desc := "(LJoinedTrees;II[J)I" } : Jvm.MethodName) method_29_code (5 : Nat) (Option.some Jvm.ClassFile.FieldType.int) [((0 : Nat), (10 : Nat), (13 : Nat), (19 : Nat))]) ∈ gb := gm_6 164 rfl rfl
theorem kw_1365 : (Jvm.Cond.methodLink "JoinedTreesLaw" (107 : Nat) ({ cls := "JoinedTrees", name := "count", desc := "(II)I" } : Jvm.MethodName)) ∈ gb := gm_6 165 rfl rfl
theorem kw_1366 : (Jvm.Cond.instanceMethod ({ cls := "JoinedTrees", name := "count", desc := "(II)I" } : Jvm.MethodName)) ∈ gb := gm_6 166 rfl rfl
theorem kw_1367 : (Jvm.Cond.selects "JoinedTrees" ({ cls := "JoinedTrees", name := "count", desc := "(II)I" } : Jvm.MethodName) ({ cls := "JoinedTrees", name := "count", desc := "(II)I" } : Jvm.MethodName)) ∈ gb := gm_6 167 rfl rfl
theorem kw_1368 : (Jvm.Cond.code ({ cls := "JoinedTrees", name := "count", desc := "(II)I" } : Jvm.MethodName) prog_1_method_28_code (4 : Nat) (Option.some Jvm.ClassFile.FieldType.int)) ∈ gb := gm_6 168 rfl rfl
theorem kw_1369 : (Jvm.Cond.methodLink "JoinedTrees" (392 : Nat) ({ cls := "JoinedTrees$Replica", name := "headsNow", desc := "()I" } : Jvm.MethodName)) ∈ gb := gm_6 169 rfl rfl
theorem kw_1370 : (Jvm.Cond.classLink "JoinedTreesLaw" (111 : Nat) "JoinedTreesModel") ∈ gb := gm_6 170 rfl rfl
theorem kw_1371 : (Jvm.Cond.instantiable "JoinedTreesModel" (77 : Nat)) ∈ gb := gm_6 171 rfl rfl
theorem kw_1372 : (Jvm.Cond.methodLink "JoinedTreesLaw" (113 : Nat) ({ cls := "JoinedTreesModel", name := "<init>", desc := "()V" } : Jvm.MethodName)) ∈ gb := gm_6 172 rfl rfl
theorem kw_1373 : (Jvm.Cond.instanceMethod ({ cls := "JoinedTreesModel", name := "<init>", desc := "()V" } : Jvm.MethodName)) ∈ gb := gm_6 173 rfl rfl
theorem kw_1374 : (Jvm.Cond.code ({ cls := "JoinedTreesModel", name := "<init>", desc := "()V" } : Jvm.MethodName) prog_14_method_1_code (2 : Nat) (Option.none : Option Jvm.ClassFile.FieldType)) ∈ gb := gm_6 174 rfl rfl
theorem kw_1375 : (Jvm.Cond.methodLink "JoinedTreesModel" (1 : Nat) ({ cls := "java/lang/Object", name := "<init>", desc := "()V" } : Jvm.MethodName)) ∈ gb := gm_6 175 rfl rfl
theorem kw_1376 : (Jvm.Cond.constant "JoinedTreesModel" (67 : Nat) (40000 : Int32)) ∈ gb := gm_6 176 rfl rfl
theorem kw_1377 : (Jvm.Cond.constant "JoinedTreesModel" (71 : Nat) (32876 : Int32)) ∈ gb := gm_6 177 rfl rfl
theorem kw_1378 : (Jvm.Cond.classLink "JoinedTreesModel" (93 : Nat) "[[Z") ∈ gb := gm_6 178 rfl rfl
theorem kw_1380 : (Jvm.Cond.constant "JoinedTreesModel" (107 : Nat) (800000 : Int32)) ∈ gb := gm_6 180 rfl rfl
theorem kw_1381 : (Jvm.Cond.constant "JoinedTreesModel" (172 : Nat) (400000 : Int32)) ∈ gb := gm_6 181 rfl rfl
theorem kw_1382 : (Jvm.Cond.fieldLink "JoinedTreesModel" (176 : Nat) "JoinedTreesModel" "thrown" "I") ∈ gb := gm_6 182 rfl rfl
theorem kw_1383 : (Jvm.Cond.fieldLink "JoinedTreesModel" (7 : Nat) "JoinedTreesModel" "input" "[B") ∈ gb := gm_6 183 rfl rfl
theorem kw_1384 : (Jvm.Cond.fieldLink "JoinedTreesModel" (13 : Nat) "JoinedTreesModel" "first" "[B") ∈ gb := gm_6 184 rfl rfl
theorem kw_1385 : (Jvm.Cond.fieldLink "JoinedTreesModel" (16 : Nat) "JoinedTreesModel" "second" "[B") ∈ gb := gm_6 185 rfl rfl
theorem kw_1386 : (Jvm.Cond.fieldLink "JoinedTreesModel" (179 : Nat) "JoinedTreesModel" "inputSize" "I") ∈ gb := gm_6 186 rfl rfl
theorem kw_1387 : (Jvm.Cond.fieldLink "JoinedTreesModel" (185 : Nat) "JoinedTreesModel" "firstSize" "I") ∈ gb := gm_6 187 rfl rfl
theorem kw_1388 : (Jvm.Cond.fieldLink "JoinedTreesModel" (188 : Nat) "JoinedTreesModel" "secondSize" "I") ∈ gb := gm_6 188 rfl rfl
theorem kw_1389 : (Jvm.Cond.fieldLink "JoinedTreesModel" (182 : Nat) "JoinedTreesModel" "arguments" "I") ∈ gb := gm_6 189 rfl rfl
theorem kw_1390 : (Jvm.Cond.fieldLink "JoinedTreesModel" (19 : Nat) "JoinedTreesModel" "opid" "[I") ∈ gb := gm_6 190 rfl rfl
theorem kw_1391 : (Jvm.Cond.fieldLink "JoinedTreesModel" (23 : Nat) "JoinedTreesModel" "object" "[I") ∈ gb := gm_6 191 rfl rfl
theorem kw_1392 : (Jvm.Cond.fieldLink "JoinedTreesModel" (26 : Nat) "JoinedTreesModel" "place" "[I") ∈ gb := gm_6 192 rfl rfl
theorem kw_1393 : (Jvm.Cond.fieldLink "JoinedTreesModel" (29 : Nat) "JoinedTreesModel" "action" "[I") ∈ gb := gm_6 193 rfl rfl
theorem kw_1394 : (Jvm.Cond.fieldLink "JoinedTreesModel" (32 : Nat) "JoinedTreesModel" "owner" "[I") ∈ gb := gm_6 194 rfl rfl
theorem kw_1395 : (Jvm.Cond.fieldLink "JoinedTreesModel" (35 : Nat) "JoinedTreesModel" "change" "[I") ∈ gb := gm_6 195 rfl rfl
theorem kw_1396 : (Jvm.Cond.fieldLink "JoinedTreesModel" (38 : Nat) "JoinedTreesModel" "keyAt" "[I") ∈ gb := gm_6 196 rfl rfl
theorem kw_1397 : (Jvm.Cond.fieldLink "JoinedTreesModel" (41 : Nat) "JoinedTreesModel" "keyLong" "[I") ∈ gb := gm_6 197 rfl rfl
theorem kw_1398 : (Jvm.Cond.fieldLink "JoinedTreesModel" (44 : Nat) "JoinedTreesModel" "textAt" "[I") ∈ gb := gm_6 198 rfl rfl
theorem kw_1399 : (Jvm.Cond.fieldLink "JoinedTreesModel" (47 : Nat) "JoinedTreesModel" "textLong" "[I") ∈ gb := gm_6 199 rfl rfl
theorem kw_1400 : (Jvm.Cond.fieldLink "JoinedTreesModel" (50 : Nat) "JoinedTreesModel" "predAt" "[I") ∈ gb := gm_6 200 rfl rfl
theorem kw_1401 : (Jvm.Cond.fieldLink "JoinedTreesModel" (53 : Nat) "JoinedTreesModel" "predMany" "[I") ∈ gb := gm_6 201 rfl rfl
theorem kw_1402 : (Jvm.Cond.fieldLink "JoinedTreesModel" (56 : Nat) "JoinedTreesModel" "inserts" "[Z") ∈ gb := gm_6 202 rfl rfl
theorem kw_1403 : (Jvm.Cond.fieldLink "JoinedTreesModel" (60 : Nat) "JoinedTreesModel" "gone" "[Z") ∈ gb := gm_6 203 rfl rfl
theorem kw_1404 : (Jvm.Cond.fieldLink "JoinedTreesModel" (63 : Nat) "JoinedTreesModel" "number" "[J") ∈ gb := gm_6 204 rfl rfl
theorem kw_1405 : (Jvm.Cond.fieldLink "JoinedTreesModel" (195 : Nat) "JoinedTreesModel" "ops" "I") ∈ gb := gm_6 205 rfl rfl
theorem kw_1406 : (Jvm.Cond.fieldLink "JoinedTreesModel" (68 : Nat) "JoinedTreesModel" "pred" "[I") ∈ gb := gm_6 206 rfl rfl
theorem kw_1407 : (Jvm.Cond.fieldLink "JoinedTreesModel" (244 : Nat) "JoinedTreesModel" "preds" "I") ∈ gb := gm_6 207 rfl rfl
theorem kw_1408 : (Jvm.Cond.fieldLink "JoinedTreesModel" (72 : Nat) "JoinedTreesModel" "bytes" "[B") ∈ gb := gm_6 208 rfl rfl
theorem kw_1409 : (Jvm.Cond.fieldLink "JoinedTreesModel" (238 : Nat) "JoinedTreesModel" "byteMany" "I") ∈ gb := gm_6 209 rfl rfl
theorem kw_1410 : (Jvm.Cond.fieldLink "JoinedTreesModel" (75 : Nat) "JoinedTreesModel" "order" "[I") ∈ gb := gm_6 210 rfl rfl
theorem kw_1411 : (Jvm.Cond.fieldLink "JoinedTreesModel" (78 : Nat) "JoinedTreesModel" "actor" "[I") ∈ gb := gm_6 211 rfl rfl
theorem kw_1412 : (Jvm.Cond.fieldLink "JoinedTreesModel" (81 : Nat) "JoinedTreesModel" "serial" "[I") ∈ gb := gm_6 212 rfl rfl
theorem kw_1413 : (Jvm.Cond.fieldLink "JoinedTreesModel" (84 : Nat) "JoinedTreesModel" "depAt" "[I") ∈ gb := gm_6 213 rfl rfl
theorem kw_1414 : (Jvm.Cond.fieldLink "JoinedTreesModel" (87 : Nat) "JoinedTreesModel" "depMany" "[I") ∈ gb := gm_6 214 rfl rfl
theorem kw_1415 : (Jvm.Cond.fieldLink "JoinedTreesModel" (90 : Nat) "JoinedTreesModel" "dep" "[I") ∈ gb := gm_6 215 rfl rfl
theorem kw_1416 : (Jvm.Cond.fieldLink "JoinedTreesModel" (384 : Nat) "JoinedTreesModel" "changes" "I") ∈ gb := gm_6 216 rfl rfl
theorem kw_1417 : (Jvm.Cond.fieldLink "JoinedTreesModel" (393 : Nat) "JoinedTreesModel" "deps" "I") ∈ gb := gm_6 217 rfl rfl
theorem kw_1418 : (Jvm.Cond.fieldLink "JoinedTreesModel" (95 : Nat) "JoinedTreesModel" "has" "[[Z") ∈ gb := gm_6 218 rfl rfl
theorem kw_1419 : (Jvm.Cond.fieldLink "JoinedTreesModel" (98 : Nat) "JoinedTreesModel" "waits" "[[Z") ∈ gb := gm_6 219 rfl rfl
theorem kw_1420 : (Jvm.Cond.fieldLink "JoinedTreesModel" (101 : Nat) "JoinedTreesModel" "viewed" "[[Z") ∈ gb := gm_6 220 rfl rfl
theorem kw_1421 : (Jvm.Cond.fieldLink "JoinedTreesModel" (104 : Nat) "JoinedTreesModel" "look" "[I") ∈ gb := gm_6 221 rfl rfl
theorem kw_1422 : (Jvm.Cond.fieldLink "JoinedTreesModel" (108 : Nat) "JoinedTreesModel" "out" "[B") ∈ gb := gm_6 222 rfl rfl
theorem kw_1423 : (Jvm.Cond.fieldLink "JoinedTreesModel" (433 : Nat) "JoinedTreesModel" "outSize" "I") ∈ gb := gm_6 223 rfl rfl
theorem kw_1424 : (Jvm.Cond.fieldLink "JoinedTreesModel" (111 : Nat) "JoinedTreesModel" "where" "I") ∈ gb := gm_6 224 rfl rfl
theorem kw_1425 : (Jvm.Cond.fieldLink "JoinedTreesModel" (465 : Nat) "JoinedTreesModel" "saved" "Z") ∈ gb := gm_6 225 rfl rfl
theorem kw_1426 : (Jvm.Cond.fieldLink "JoinedTreesModel" (115 : Nat) "JoinedTreesModel" "savedHas" "[Z") ∈ gb := gm_6 226 rfl rfl
theorem kw_1427 : (Jvm.Cond.fieldLink "JoinedTreesModel" (118 : Nat) "JoinedTreesModel" "hidden" "[Z") ∈ gb := gm_6 227 rfl rfl
theorem kw_1428 : (Jvm.Cond.fieldLink "JoinedTreesModel" (121 : Nat) "JoinedTreesModel" "cand" "[I") ∈ gb := gm_6 228 rfl rfl
theorem kw_1429 : (Jvm.Cond.fieldLink "JoinedTreesModel" (210 : Nat) "JoinedTreesModel" "cands" "I") ∈ gb := gm_6 229 rfl rfl
theorem kw_1430 : (Jvm.Cond.fieldLink "JoinedTreesModel" (124 : Nat) "JoinedTreesModel" "element" "[I") ∈ gb := gm_6 230 rfl rfl
theorem kw_1431 : (Jvm.Cond.fieldLink "JoinedTreesModel" (127 : Nat) "JoinedTreesModel" "chain" "[I") ∈ gb := gm_6 231 rfl rfl
theorem kw_1432 : (Jvm.Cond.fieldLink "JoinedTreesModel" (220 : Nat) "JoinedTreesModel" "elements" "I") ∈ gb := gm_6 232 rfl rfl
theorem kw_1433 : (Jvm.Cond.fieldLink "JoinedTreesModel" (130 : Nat) "JoinedTreesModel" "there" "[Z") ∈ gb := gm_6 233 rfl rfl
theorem kw_1434 : (Jvm.Cond.fieldLink "JoinedTreesModel" (302 : Nat) "JoinedTreesModel" "pointElement" "I") ∈ gb := gm_6 234 rfl rfl
theorem kw_1435 : (Jvm.Cond.fieldLink "JoinedTreesModel" (133 : Nat) "JoinedTreesModel" "jSort" "[I") ∈ gb := gm_6 235 rfl rfl
theorem kw_1436 : (Jvm.Cond.fieldLink "JoinedTreesModel" (136 : Nat) "JoinedTreesModel" "jIn" "[I") ∈ gb := gm_6 236 rfl rfl
theorem kw_1437 : (Jvm.Cond.fieldLink "JoinedTreesModel" (139 : Nat) "JoinedTreesModel" "jKeyAt" "[I") ∈ gb := gm_6 237 rfl rfl
theorem kw_1438 : (Jvm.Cond.fieldLink "JoinedTreesModel" (142 : Nat) "JoinedTreesModel" "jKeyLong" "[I") ∈ gb := gm_6 238 rfl rfl
theorem kw_1439 : (Jvm.Cond.fieldLink "JoinedTreesModel" (145 : Nat) "JoinedTreesModel" "jTextAt" "[I") ∈ gb := gm_6 239 rfl rfl
theorem kw_1440 : (Jvm.Cond.fieldLink "JoinedTreesModel" (148 : Nat) "JoinedTreesModel" "jTextLong" "[I") ∈ gb := gm_7 0 rfl rfl
theorem kw_1441 : (Jvm.Cond.fieldLink "JoinedTreesModel" (151 : Nat) "JoinedTreesModel" "jOp" "[I") ∈ gb := gm_7 1 rfl rfl
theorem kw_1442 : (Jvm.Cond.fieldLink "JoinedTreesModel" (154 : Nat) "JoinedTreesModel" "jLast" "[I") ∈ gb := gm_7 2 rfl rfl
theorem kw_1443 : (Jvm.Cond.fieldLink "JoinedTreesModel" (157 : Nat) "JoinedTreesModel" "jNumber" "[J") ∈ gb := gm_7 3 rfl rfl
theorem kw_1444 : (Jvm.Cond.fieldLink "JoinedTreesModel" (160 : Nat) "JoinedTreesModel" "jBytes" "[B") ∈ gb := gm_7 4 rfl rfl
theorem kw_1445 : (Jvm.Cond.fieldLink "JoinedTreesModel" (163 : Nat) "JoinedTreesModel" "nest" "[I") ∈ gb := gm_7 5 rfl rfl
theorem kw_1446 : (Jvm.Cond.fieldLink "JoinedTreesModel" (345 : Nat) "JoinedTreesModel" "jMany" "I") ∈ gb := gm_7 6 rfl rfl
theorem kw_1447 : (Jvm.Cond.fieldLink "JoinedTreesModel" (332 : Nat) "JoinedTreesModel" "jSize" "I") ∈ gb := gm_7 7 rfl rfl
theorem kw_1448 : (Jvm.Cond.fieldLink "JoinedTreesModel" (313 : Nat) "JoinedTreesModel" "jAt" "I") ∈ gb := gm_7 8 rfl rfl
theorem kw_1449 : (Jvm.Cond.fieldLink "JoinedTreesModel" (348 : Nat) "JoinedTreesModel" "deep" "I") ∈ gb := gm_7 9 rfl rfl
theorem kw_1450 : (Jvm.Cond.fieldLink "JoinedTreesModel" (324 : Nat) "JoinedTreesModel" "wrong" "Z") ∈ gb := gm_7 10 rfl rfl
theorem kw_1451 : (Jvm.Cond.fieldLink "JoinedTreesModel" (364 : Nat) "JoinedTreesModel" "state" "I") ∈ gb := gm_7 11 rfl rfl
theorem kw_1452 : (Jvm.Cond.fieldLink "JoinedTreesModel" (166 : Nat) "JoinedTreesModel" "keys" "[I") ∈ gb := gm_7 12 rfl rfl
theorem kw_1453 : (Jvm.Cond.fieldLink "JoinedTreesModel" (411 : Nat) "JoinedTreesModel" "keyMany" "I") ∈ gb := gm_7 13 rfl rfl
theorem kw_1454 : (Jvm.Cond.fieldLink "JoinedTreesModel" (169 : Nat) "JoinedTreesModel" "pile" "[I") ∈ gb := gm_7 14 rfl rfl
theorem kw_1455 : (Jvm.Cond.fieldLink "JoinedTreesModel" (453 : Nat) "JoinedTreesModel" "piled" "I") ∈ gb := gm_7 15 rfl rfl
theorem kw_1456 : (Jvm.Cond.fieldLink "JoinedTreesModel" (173 : Nat) "JoinedTreesModel" "keptOut" "I") ∈ gb := gm_7 16 rfl rfl
theorem kw_1457 : (Jvm.Cond.fieldLink "JoinedTreesModel" (496 : Nat) "JoinedTreesModel" "loadAt" "I") ∈ gb := gm_7 17 rfl rfl
theorem kw_1458 : (Jvm.Cond.fieldLink "JoinedTreesModel" (499 : Nat) "JoinedTreesModel" "keptLength" "I") ∈ gb := gm_7 18 rfl rfl
theorem kw_1459 : (Jvm.Cond.lays "JoinedTreesModel" "JoinedTreesModel" "thrown" "I") ∈ gb := gm_7 19 rfl rfl
theorem kw_1460 : (Jvm.Cond.soleField "JoinedTreesModel" "thrown") ∈ gb := gm_7 20 rfl rfl
theorem kw_1461 : (Jvm.Cond.laysFinal "JoinedTreesModel" "JoinedTreesModel" "input" "[B") ∈ gb := gm_7 21 rfl rfl
theorem kw_1462 : (Jvm.Cond.soleField "JoinedTreesModel" "input") ∈ gb := gm_7 22 rfl rfl
theorem kw_1463 : (Jvm.Cond.laysFinal "JoinedTreesModel" "JoinedTreesModel" "first" "[B") ∈ gb := gm_7 23 rfl rfl
theorem kw_1464 : (Jvm.Cond.soleField "JoinedTreesModel" "first") ∈ gb := gm_7 24 rfl rfl
theorem kw_1465 : (Jvm.Cond.laysFinal "JoinedTreesModel" "JoinedTreesModel" "second" "[B") ∈ gb := gm_7 25 rfl rfl
theorem kw_1466 : (Jvm.Cond.soleField "JoinedTreesModel" "second") ∈ gb := gm_7 26 rfl rfl
theorem kw_1467 : (Jvm.Cond.lays "JoinedTreesModel" "JoinedTreesModel" "inputSize" "I") ∈ gb := gm_7 27 rfl rfl
theorem kw_1468 : (Jvm.Cond.soleField "JoinedTreesModel" "inputSize") ∈ gb := gm_7 28 rfl rfl
theorem kw_1469 : (Jvm.Cond.lays "JoinedTreesModel" "JoinedTreesModel" "firstSize" "I") ∈ gb := gm_7 29 rfl rfl
theorem kw_1470 : (Jvm.Cond.soleField "JoinedTreesModel" "firstSize") ∈ gb := gm_7 30 rfl rfl
theorem kw_1471 : (Jvm.Cond.lays "JoinedTreesModel" "JoinedTreesModel" "secondSize" "I") ∈ gb := gm_7 31 rfl rfl
theorem kw_1472 : (Jvm.Cond.soleField "JoinedTreesModel" "secondSize") ∈ gb := gm_7 32 rfl rfl
theorem kw_1473 : (Jvm.Cond.lays "JoinedTreesModel" "JoinedTreesModel" "arguments" "I") ∈ gb := gm_7 33 rfl rfl
theorem kw_1474 : (Jvm.Cond.soleField "JoinedTreesModel" "arguments") ∈ gb := gm_7 34 rfl rfl
theorem kw_1475 : (Jvm.Cond.laysFinal "JoinedTreesModel" "JoinedTreesModel" "opid" "[I") ∈ gb := gm_7 35 rfl rfl
theorem kw_1476 : (Jvm.Cond.soleField "JoinedTreesModel" "opid") ∈ gb := gm_7 36 rfl rfl
theorem kw_1477 : (Jvm.Cond.laysFinal "JoinedTreesModel" "JoinedTreesModel" "object" "[I") ∈ gb := gm_7 37 rfl rfl
theorem kw_1478 : (Jvm.Cond.soleField "JoinedTreesModel" "object") ∈ gb := gm_7 38 rfl rfl
theorem kw_1479 : (Jvm.Cond.laysFinal "JoinedTreesModel" "JoinedTreesModel" "place" "[I") ∈ gb := gm_7 39 rfl rfl
theorem kw_1480 : (Jvm.Cond.soleField "JoinedTreesModel" "place") ∈ gb := gm_7 40 rfl rfl
theorem kw_1481 : (Jvm.Cond.laysFinal "JoinedTreesModel" "JoinedTreesModel" "action" "[I") ∈ gb := gm_7 41 rfl rfl
theorem kw_1482 : (Jvm.Cond.soleField "JoinedTreesModel" "action") ∈ gb := gm_7 42 rfl rfl
theorem kw_1483 : (Jvm.Cond.laysFinal "JoinedTreesModel" "JoinedTreesModel" "owner" "[I") ∈ gb := gm_7 43 rfl rfl
theorem kw_1484 : (Jvm.Cond.soleField "JoinedTreesModel" "owner") ∈ gb := gm_7 44 rfl rfl
theorem kw_1485 : (Jvm.Cond.laysFinal "JoinedTreesModel" "JoinedTreesModel" "change" "[I") ∈ gb := gm_7 45 rfl rfl
theorem kw_1486 : (Jvm.Cond.soleField "JoinedTreesModel" "change") ∈ gb := gm_7 46 rfl rfl
theorem kw_1487 : (Jvm.Cond.laysFinal "JoinedTreesModel" "JoinedTreesModel" "keyAt" "[I") ∈ gb := gm_7 47 rfl rfl
theorem kw_1488 : (Jvm.Cond.soleField "JoinedTreesModel" "keyAt") ∈ gb := gm_7 48 rfl rfl
theorem kw_1489 : (Jvm.Cond.laysFinal "JoinedTreesModel" "JoinedTreesModel" "keyLong" "[I") ∈ gb := gm_7 49 rfl rfl
theorem kw_1490 : (Jvm.Cond.soleField "JoinedTreesModel" "keyLong") ∈ gb := gm_7 50 rfl rfl
theorem kw_1491 : (Jvm.Cond.laysFinal "JoinedTreesModel" "JoinedTreesModel" "textAt" "[I") ∈ gb := gm_7 51 rfl rfl
theorem kw_1492 : (Jvm.Cond.soleField "JoinedTreesModel" "textAt") ∈ gb := gm_7 52 rfl rfl
theorem kw_1493 : (Jvm.Cond.laysFinal "JoinedTreesModel" "JoinedTreesModel" "textLong" "[I") ∈ gb := gm_7 53 rfl rfl
theorem kw_1494 : (Jvm.Cond.soleField "JoinedTreesModel" "textLong") ∈ gb := gm_7 54 rfl rfl
theorem kw_1495 : (Jvm.Cond.laysFinal "JoinedTreesModel" "JoinedTreesModel" "predAt" "[I") ∈ gb := gm_7 55 rfl rfl
theorem kw_1496 : (Jvm.Cond.soleField "JoinedTreesModel" "predAt") ∈ gb := gm_7 56 rfl rfl
theorem kw_1497 : (Jvm.Cond.laysFinal "JoinedTreesModel" "JoinedTreesModel" "predMany" "[I") ∈ gb := gm_7 57 rfl rfl
theorem kw_1498 : (Jvm.Cond.soleField "JoinedTreesModel" "predMany") ∈ gb := gm_7 58 rfl rfl
theorem kw_1499 : (Jvm.Cond.laysFinal "JoinedTreesModel" "JoinedTreesModel" "inserts" "[Z") ∈ gb := gm_7 59 rfl rfl
theorem kw_1500 : (Jvm.Cond.soleField "JoinedTreesModel" "inserts") ∈ gb := gm_7 60 rfl rfl
theorem kw_1501 : (Jvm.Cond.laysFinal "JoinedTreesModel" "JoinedTreesModel" "gone" "[Z") ∈ gb := gm_7 61 rfl rfl
theorem kw_1502 : (Jvm.Cond.soleField "JoinedTreesModel" "gone") ∈ gb := gm_7 62 rfl rfl
theorem kw_1503 : (Jvm.Cond.laysFinal "JoinedTreesModel" "JoinedTreesModel" "number" "[J") ∈ gb := gm_7 63 rfl rfl
theorem kw_1504 : (Jvm.Cond.soleField "JoinedTreesModel" "number") ∈ gb := gm_7 64 rfl rfl
theorem kw_1505 : (Jvm.Cond.lays "JoinedTreesModel" "JoinedTreesModel" "ops" "I") ∈ gb := gm_7 65 rfl rfl
theorem kw_1506 : (Jvm.Cond.soleField "JoinedTreesModel" "ops") ∈ gb := gm_7 66 rfl rfl
theorem kw_1507 : (Jvm.Cond.laysFinal "JoinedTreesModel" "JoinedTreesModel" "pred" "[I") ∈ gb := gm_7 67 rfl rfl
theorem kw_1508 : (Jvm.Cond.soleField "JoinedTreesModel" "pred") ∈ gb := gm_7 68 rfl rfl
theorem kw_1509 : (Jvm.Cond.lays "JoinedTreesModel" "JoinedTreesModel" "preds" "I") ∈ gb := gm_7 69 rfl rfl
theorem kw_1510 : (Jvm.Cond.soleField "JoinedTreesModel" "preds") ∈ gb := gm_7 70 rfl rfl
theorem kw_1511 : (Jvm.Cond.laysFinal "JoinedTreesModel" "JoinedTreesModel" "bytes" "[B") ∈ gb := gm_7 71 rfl rfl
theorem kw_1512 : (Jvm.Cond.soleField "JoinedTreesModel" "bytes") ∈ gb := gm_7 72 rfl rfl
theorem kw_1513 : (Jvm.Cond.lays "JoinedTreesModel" "JoinedTreesModel" "byteMany" "I") ∈ gb := gm_7 73 rfl rfl
theorem kw_1514 : (Jvm.Cond.soleField "JoinedTreesModel" "byteMany") ∈ gb := gm_7 74 rfl rfl
theorem kw_1515 : (Jvm.Cond.laysFinal "JoinedTreesModel" "JoinedTreesModel" "order" "[I") ∈ gb := gm_7 75 rfl rfl
theorem kw_1516 : (Jvm.Cond.soleField "JoinedTreesModel" "order") ∈ gb := gm_7 76 rfl rfl
theorem kw_1517 : (Jvm.Cond.laysFinal "JoinedTreesModel" "JoinedTreesModel" "actor" "[I") ∈ gb := gm_7 77 rfl rfl
theorem kw_1518 : (Jvm.Cond.soleField "JoinedTreesModel" "actor") ∈ gb := gm_7 78 rfl rfl
theorem kw_1519 : (Jvm.Cond.laysFinal "JoinedTreesModel" "JoinedTreesModel" "serial" "[I") ∈ gb := gm_7 79 rfl rfl
theorem kw_1520 : (Jvm.Cond.soleField "JoinedTreesModel" "serial") ∈ gb := gm_7 80 rfl rfl
theorem kw_1521 : (Jvm.Cond.laysFinal "JoinedTreesModel" "JoinedTreesModel" "depAt" "[I") ∈ gb := gm_7 81 rfl rfl
theorem kw_1522 : (Jvm.Cond.soleField "JoinedTreesModel" "depAt") ∈ gb := gm_7 82 rfl rfl
theorem kw_1523 : (Jvm.Cond.laysFinal "JoinedTreesModel" "JoinedTreesModel" "depMany" "[I") ∈ gb := gm_7 83 rfl rfl
theorem kw_1524 : (Jvm.Cond.soleField "JoinedTreesModel" "depMany") ∈ gb := gm_7 84 rfl rfl
theorem kw_1525 : (Jvm.Cond.laysFinal "JoinedTreesModel" "JoinedTreesModel" "dep" "[I") ∈ gb := gm_7 85 rfl rfl
theorem kw_1526 : (Jvm.Cond.soleField "JoinedTreesModel" "dep") ∈ gb := gm_7 86 rfl rfl
theorem kw_1527 : (Jvm.Cond.lays "JoinedTreesModel" "JoinedTreesModel" "changes" "I") ∈ gb := gm_7 87 rfl rfl
theorem kw_1528 : (Jvm.Cond.soleField "JoinedTreesModel" "changes") ∈ gb := gm_7 88 rfl rfl
theorem kw_1529 : (Jvm.Cond.lays "JoinedTreesModel" "JoinedTreesModel" "deps" "I") ∈ gb := gm_7 89 rfl rfl
theorem kw_1530 : (Jvm.Cond.soleField "JoinedTreesModel" "deps") ∈ gb := gm_7 90 rfl rfl
theorem kw_1531 : (Jvm.Cond.laysFinal "JoinedTreesModel" "JoinedTreesModel" "has" "[[Z") ∈ gb := gm_7 91 rfl rfl
theorem kw_1532 : (Jvm.Cond.soleField "JoinedTreesModel" "has") ∈ gb := gm_7 92 rfl rfl
theorem kw_1533 : (Jvm.Cond.laysFinal "JoinedTreesModel" "JoinedTreesModel" "waits" "[[Z") ∈ gb := gm_7 93 rfl rfl
theorem kw_1534 : (Jvm.Cond.soleField "JoinedTreesModel" "waits") ∈ gb := gm_7 94 rfl rfl
theorem kw_1535 : (Jvm.Cond.laysFinal "JoinedTreesModel" "JoinedTreesModel" "viewed" "[[Z") ∈ gb := gm_7 95 rfl rfl
theorem kw_1536 : (Jvm.Cond.soleField "JoinedTreesModel" "viewed") ∈ gb := gm_7 96 rfl rfl
theorem kw_1537 : (Jvm.Cond.laysFinal "JoinedTreesModel" "JoinedTreesModel" "look" "[I") ∈ gb := gm_7 97 rfl rfl
theorem kw_1538 : (Jvm.Cond.soleField "JoinedTreesModel" "look") ∈ gb := gm_7 98 rfl rfl
theorem kw_1539 : (Jvm.Cond.laysFinal "JoinedTreesModel" "JoinedTreesModel" "out" "[B") ∈ gb := gm_7 99 rfl rfl
theorem kw_1540 : (Jvm.Cond.soleField "JoinedTreesModel" "out") ∈ gb := gm_7 100 rfl rfl
theorem kw_1541 : (Jvm.Cond.lays "JoinedTreesModel" "JoinedTreesModel" "outSize" "I") ∈ gb := gm_7 101 rfl rfl
theorem kw_1542 : (Jvm.Cond.soleField "JoinedTreesModel" "outSize") ∈ gb := gm_7 102 rfl rfl
theorem kw_1543 : (Jvm.Cond.lays "JoinedTreesModel" "JoinedTreesModel" "where" "I") ∈ gb := gm_7 103 rfl rfl
theorem kw_1544 : (Jvm.Cond.soleField "JoinedTreesModel" "where") ∈ gb := gm_7 104 rfl rfl
theorem kw_1545 : (Jvm.Cond.lays "JoinedTreesModel" "JoinedTreesModel" "saved" "Z") ∈ gb := gm_7 105 rfl rfl
theorem kw_1546 : (Jvm.Cond.soleField "JoinedTreesModel" "saved") ∈ gb := gm_7 106 rfl rfl
theorem kw_1547 : (Jvm.Cond.laysFinal "JoinedTreesModel" "JoinedTreesModel" "savedHas" "[Z") ∈ gb := gm_7 107 rfl rfl
theorem kw_1548 : (Jvm.Cond.soleField "JoinedTreesModel" "savedHas") ∈ gb := gm_7 108 rfl rfl
theorem kw_1549 : (Jvm.Cond.laysFinal "JoinedTreesModel" "JoinedTreesModel" "hidden" "[Z") ∈ gb := gm_7 109 rfl rfl
theorem kw_1550 : (Jvm.Cond.soleField "JoinedTreesModel" "hidden") ∈ gb := gm_7 110 rfl rfl
theorem kw_1551 : (Jvm.Cond.laysFinal "JoinedTreesModel" "JoinedTreesModel" "cand" "[I") ∈ gb := gm_7 111 rfl rfl
theorem kw_1552 : (Jvm.Cond.soleField "JoinedTreesModel" "cand") ∈ gb := gm_7 112 rfl rfl
theorem kw_1553 : (Jvm.Cond.lays "JoinedTreesModel" "JoinedTreesModel" "cands" "I") ∈ gb := gm_7 113 rfl rfl
theorem kw_1554 : (Jvm.Cond.soleField "JoinedTreesModel" "cands") ∈ gb := gm_7 114 rfl rfl
theorem kw_1555 : (Jvm.Cond.laysFinal "JoinedTreesModel" "JoinedTreesModel" "element" "[I") ∈ gb := gm_7 115 rfl rfl
theorem kw_1556 : (Jvm.Cond.soleField "JoinedTreesModel" "element") ∈ gb := gm_7 116 rfl rfl
theorem kw_1557 : (Jvm.Cond.laysFinal "JoinedTreesModel" "JoinedTreesModel" "chain" "[I") ∈ gb := gm_7 117 rfl rfl
theorem kw_1558 : (Jvm.Cond.soleField "JoinedTreesModel" "chain") ∈ gb := gm_7 118 rfl rfl
theorem kw_1559 : (Jvm.Cond.lays "JoinedTreesModel" "JoinedTreesModel" "elements" "I") ∈ gb := gm_7 119 rfl rfl
theorem kw_1560 : (Jvm.Cond.soleField "JoinedTreesModel" "elements") ∈ gb := gm_7 120 rfl rfl
theorem kw_1561 : (Jvm.Cond.laysFinal "JoinedTreesModel" "JoinedTreesModel" "there" "[Z") ∈ gb := gm_7 121 rfl rfl
theorem kw_1562 : (Jvm.Cond.soleField "JoinedTreesModel" "there") ∈ gb := gm_7 122 rfl rfl
theorem kw_1563 : (Jvm.Cond.lays "JoinedTreesModel" "JoinedTreesModel" "pointElement" "I") ∈ gb := gm_7 123 rfl rfl
theorem kw_1564 : (Jvm.Cond.soleField "JoinedTreesModel" "pointElement") ∈ gb := gm_7 124 rfl rfl
theorem kw_1565 : (Jvm.Cond.laysFinal "JoinedTreesModel" "JoinedTreesModel" "jSort" "[I") ∈ gb := gm_7 125 rfl rfl
theorem kw_1566 : (Jvm.Cond.soleField "JoinedTreesModel" "jSort") ∈ gb := gm_7 126 rfl rfl
theorem kw_1567 : (Jvm.Cond.laysFinal "JoinedTreesModel" "JoinedTreesModel" "jIn" "[I") ∈ gb := gm_7 127 rfl rfl
theorem kw_1568 : (Jvm.Cond.soleField "JoinedTreesModel" "jIn") ∈ gb := gm_7 128 rfl rfl
theorem kw_1569 : (Jvm.Cond.laysFinal "JoinedTreesModel" "JoinedTreesModel" "jKeyAt" "[I") ∈ gb := gm_7 129 rfl rfl
theorem kw_1570 : (Jvm.Cond.soleField "JoinedTreesModel" "jKeyAt") ∈ gb := gm_7 130 rfl rfl
theorem kw_1571 : (Jvm.Cond.laysFinal "JoinedTreesModel" "JoinedTreesModel" "jKeyLong" "[I") ∈ gb := gm_7 131 rfl rfl
theorem kw_1572 : (Jvm.Cond.soleField "JoinedTreesModel" "jKeyLong") ∈ gb := gm_7 132 rfl rfl
theorem kw_1573 : (Jvm.Cond.laysFinal "JoinedTreesModel" "JoinedTreesModel" "jTextAt" "[I") ∈ gb := gm_7 133 rfl rfl
theorem kw_1574 : (Jvm.Cond.soleField "JoinedTreesModel" "jTextAt") ∈ gb := gm_7 134 rfl rfl
theorem kw_1575 : (Jvm.Cond.laysFinal "JoinedTreesModel" "JoinedTreesModel" "jTextLong" "[I") ∈ gb := gm_7 135 rfl rfl
theorem kw_1576 : (Jvm.Cond.soleField "JoinedTreesModel" "jTextLong") ∈ gb := gm_7 136 rfl rfl
theorem kw_1577 : (Jvm.Cond.laysFinal "JoinedTreesModel" "JoinedTreesModel" "jOp" "[I") ∈ gb := gm_7 137 rfl rfl
theorem kw_1578 : (Jvm.Cond.soleField "JoinedTreesModel" "jOp") ∈ gb := gm_7 138 rfl rfl
theorem kw_1579 : (Jvm.Cond.laysFinal "JoinedTreesModel" "JoinedTreesModel" "jLast" "[I") ∈ gb := gm_7 139 rfl rfl
theorem kw_1580 : (Jvm.Cond.soleField "JoinedTreesModel" "jLast") ∈ gb := gm_7 140 rfl rfl
theorem kw_1581 : (Jvm.Cond.laysFinal "JoinedTreesModel" "JoinedTreesModel" "jNumber" "[J") ∈ gb := gm_7 141 rfl rfl
theorem kw_1582 : (Jvm.Cond.soleField "JoinedTreesModel" "jNumber") ∈ gb := gm_7 142 rfl rfl
theorem kw_1583 : (Jvm.Cond.laysFinal "JoinedTreesModel" "JoinedTreesModel" "jBytes" "[B") ∈ gb := gm_7 143 rfl rfl
theorem kw_1584 : (Jvm.Cond.soleField "JoinedTreesModel" "jBytes") ∈ gb := gm_7 144 rfl rfl
theorem kw_1585 : (Jvm.Cond.laysFinal "JoinedTreesModel" "JoinedTreesModel" "nest" "[I") ∈ gb := gm_7 145 rfl rfl
theorem kw_1586 : (Jvm.Cond.soleField "JoinedTreesModel" "nest") ∈ gb := gm_7 146 rfl rfl
theorem kw_1587 : (Jvm.Cond.lays "JoinedTreesModel" "JoinedTreesModel" "jMany" "I") ∈ gb := gm_7 147 rfl rfl
theorem kw_1588 : (Jvm.Cond.soleField "JoinedTreesModel" "jMany") ∈ gb := gm_7 148 rfl rfl
theorem kw_1589 : (Jvm.Cond.lays "JoinedTreesModel" "JoinedTreesModel" "jSize" "I") ∈ gb := gm_7 149 rfl rfl
theorem kw_1590 : (Jvm.Cond.soleField "JoinedTreesModel" "jSize") ∈ gb := gm_7 150 rfl rfl
theorem kw_1591 : (Jvm.Cond.lays "JoinedTreesModel" "JoinedTreesModel" "jAt" "I") ∈ gb := gm_7 151 rfl rfl
theorem kw_1592 : (Jvm.Cond.soleField "JoinedTreesModel" "jAt") ∈ gb := gm_7 152 rfl rfl
theorem kw_1593 : (Jvm.Cond.lays "JoinedTreesModel" "JoinedTreesModel" "deep" "I") ∈ gb := gm_7 153 rfl rfl
theorem kw_1594 : (Jvm.Cond.soleField "JoinedTreesModel" "deep") ∈ gb := gm_7 154 rfl rfl
theorem kw_1595 : (Jvm.Cond.lays "JoinedTreesModel" "JoinedTreesModel" "wrong" "Z") ∈ gb := gm_7 155 rfl rfl
theorem kw_1596 : (Jvm.Cond.soleField "JoinedTreesModel" "wrong") ∈ gb := gm_7 156 rfl rfl
theorem kw_1597 : (Jvm.Cond.lays "JoinedTreesModel" "JoinedTreesModel" "state" "I") ∈ gb := gm_7 157 rfl rfl
theorem kw_1598 : (Jvm.Cond.soleField "JoinedTreesModel" "state") ∈ gb := gm_7 158 rfl rfl
theorem kw_1599 : (Jvm.Cond.laysFinal "JoinedTreesModel" "JoinedTreesModel" "keys" "[I") ∈ gb := gm_7 159 rfl rfl
theorem kw_1600 : (Jvm.Cond.soleField "JoinedTreesModel" "keys") ∈ gb := gm_7 160 rfl rfl
theorem kw_1601 : (Jvm.Cond.lays "JoinedTreesModel" "JoinedTreesModel" "keyMany" "I") ∈ gb := gm_7 161 rfl rfl
theorem kw_1602 : (Jvm.Cond.soleField "JoinedTreesModel" "keyMany") ∈ gb := gm_7 162 rfl rfl
theorem kw_1603 : (Jvm.Cond.laysFinal "JoinedTreesModel" "JoinedTreesModel" "pile" "[I") ∈ gb := gm_7 163 rfl rfl
theorem kw_1604 : (Jvm.Cond.soleField "JoinedTreesModel" "pile") ∈ gb := gm_7 164 rfl rfl
theorem kw_1605 : (Jvm.Cond.lays "JoinedTreesModel" "JoinedTreesModel" "piled" "I") ∈ gb := gm_7 165 rfl rfl
theorem kw_1606 : (Jvm.Cond.soleField "JoinedTreesModel" "piled") ∈ gb := gm_7 166 rfl rfl
theorem kw_1607 : (Jvm.Cond.laysFinal "JoinedTreesModel" "JoinedTreesModel" "keptOut" "I") ∈ gb := gm_7 167 rfl rfl
theorem kw_1608 : (Jvm.Cond.soleField "JoinedTreesModel" "keptOut") ∈ gb := gm_7 168 rfl rfl
theorem kw_1609 : (Jvm.Cond.lays "JoinedTreesModel" "JoinedTreesModel" "loadAt" "I") ∈ gb := gm_7 169 rfl rfl
theorem kw_1610 : (Jvm.Cond.soleField "JoinedTreesModel" "loadAt") ∈ gb := gm_7 170 rfl rfl
theorem kw_1611 : (Jvm.Cond.lays "JoinedTreesModel" "JoinedTreesModel" "keptLength" "I") ∈ gb := gm_7 171 rfl rfl
theorem kw_1612 : (Jvm.Cond.soleField "JoinedTreesModel" "keptLength") ∈ gb := gm_7 172 rfl rfl
theorem kw_1613 : (Jvm.Cond.superclass "JoinedTreesModel" "java/lang/Object") ∈ gb := gm_7 173 rfl rfl
theorem kw_1614 : (Jvm.Cond.arrayClass Jvm.ClassFile.FieldType.long) ∈ gb := gm_7 174 rfl rfl
theorem kw_1615 : (Jvm.Cond.methodLink "JoinedTreesLaw" (120 : Nat) ({ cls := "JoinedTreesModel", name := "thrown", desc := "()I" } : Jvm.MethodName)) ∈ gb := gm_7 175 rfl rfl
theorem kw_1616 : (Jvm.Cond.instanceMethod ({ cls := "JoinedTreesModel", name := "thrown", desc := "()I" } : Jvm.MethodName)) ∈ gb := gm_7 176 rfl rfl
theorem kw_1617 : (Jvm.Cond.selects "JoinedTreesModel" ({ cls := "JoinedTreesModel", name := "thrown", desc := "()I" } : Jvm.MethodName) ({ cls := "JoinedTreesModel", name := "thrown", desc := "()I" } : Jvm.MethodName)) ∈ gb := gm_7 177 rfl rfl
theorem kw_1618 : (Jvm.Cond.code ({ cls := "JoinedTreesModel", name := "thrown", desc := "()I" } : Jvm.MethodName) prog_14_method_2_code (1 : Nat) (Option.some Jvm.ClassFile.FieldType.int)) ∈ gb := gm_7 178 rfl rfl
theorem kw_1619 : (Jvm.Cond.methodLink "JoinedTreesLaw" (119 : Nat) ({ cls := "JoinedTreesModel", name := "feed", desc := "(IIIII)I" } : Jvm.MethodName)) ∈ gb := gm_7 179 rfl rfl
theorem kw_1620 : (Jvm.Cond.instanceMethod ({ cls := "JoinedTreesModel", name := "feed", desc := "(IIIII)I" } : Jvm.MethodName)) ∈ gb := gm_7 180 rfl rfl
theorem kw_1621 : (Jvm.Cond.selects "JoinedTreesModel" ({ cls := "JoinedTreesModel", name := "feed", desc := "(IIIII)I" } : Jvm.MethodName) ({ cls := "JoinedTreesModel", name := "feed", desc := "(IIIII)I" } : Jvm.MethodName)) ∈ gb := gm_7 181 rfl rfl
theorem kw_1622 : (Jvm.Cond.code ({ cls := "JoinedTreesModel", name := "feed", desc := "(IIIII)I" } : Jvm.MethodName) prog_14_method_4_code (7 : Nat) (Option.some Jvm.ClassFile.FieldType.int)) ∈ gb := gm_7 182 rfl rfl
theorem kw_1623 : (Jvm.Cond.methodLink "JoinedTreesModel" (191 : Nat) ({ cls := "JoinedTreesModel", name := "no", desc := "(I)I" } : Jvm.MethodName)) ∈ gb := gm_7 183 rfl rfl
theorem kw_1625 : (Jvm.Cond.instanceMethod ({ cls := "JoinedTreesModel", name := "no", desc := "(I)I" } : Jvm.MethodName)) ∈ gb := gm_7 185 rfl rfl
theorem kw_1626 : (Jvm.Cond.code ({ cls := "JoinedTreesModel", name := "no", desc := "(I)I" } : Jvm.MethodName) prog_14_method_3_code (2 : Nat) (Option.some Jvm.ClassFile.FieldType.int)) ∈ gb := gm_7 186 rfl rfl
theorem kw_1627 : (Jvm.Cond.methodLink "JoinedTreesLaw" (127 : Nat) ({ cls := "JoinedTreesModel", name := "end", desc := "(I)I" } : Jvm.MethodName)) ∈ gb := gm_7 187 rfl rfl
theorem kw_1628 : (Jvm.Cond.instanceMethod ({ cls := "JoinedTreesModel", name := "end", desc := "(I)I" } : Jvm.MethodName)) ∈ gb := gm_7 188 rfl rfl
theorem kw_1629 : (Jvm.Cond.selects "JoinedTreesModel" ({ cls := "JoinedTreesModel", name := "end", desc := "(I)I" } : Jvm.MethodName) ({ cls := "JoinedTreesModel", name := "end", desc := "(I)I" } : Jvm.MethodName)) ∈ gb := gm_7 189 rfl rfl
theorem kw_1630 : (Jvm.Cond.code ({ cls := "JoinedTreesModel", name := "end", desc := "(I)I" } : Jvm.MethodName) prog_14_method_5_code (4 : Nat) (Option.some Jvm.ClassFile.FieldType.int)) ∈ gb := gm_7 190 rfl rfl
theorem kw_1631 : (Jvm.Cond.methodLink "JoinedTreesLaw" (133 : Nat) ({ cls := "JoinedTreesModel", name := "set", desc := "(IIIJ)I" } : Jvm.MethodName)) ∈ gb := gm_7 191 rfl rfl
theorem kw_1632 : (Jvm.Cond.instanceMethod ({ cls := "JoinedTreesModel", name := "set", desc := "(IIIJ)I" } : Jvm.MethodName)) ∈ gb := gm_7 192 rfl rfl
theorem kw_1633 : (Jvm.Cond.selects "JoinedTreesModel" ({ cls := "JoinedTreesModel", name := "set", desc := "(IIIJ)I" } : Jvm.MethodName) ({ cls := "JoinedTreesModel", name := "set", desc := "(IIIJ)I" } : Jvm.MethodName)) ∈ gb := gm_7 193 rfl rfl
theorem kw_1634 : (Jvm.Cond.code ({ cls := "JoinedTreesModel", name := "set", desc := "(IIIJ)I" } : Jvm.MethodName) prog_14_method_28_code (8 : Nat) (Option.some Jvm.ClassFile.FieldType.int)) ∈ gb := gm_7 194 rfl rfl
theorem kw_1635 : (Jvm.Cond.methodLink "JoinedTreesModel" (247 : Nat) ({ cls := "JoinedTreesModel", name := "taken", desc := "()I" } : Jvm.MethodName)) ∈ gb := gm_7 195 rfl rfl
theorem kw_1637 : (Jvm.Cond.instanceMethod ({ cls := "JoinedTreesModel", name := "taken", desc := "()I" } : Jvm.MethodName)) ∈ gb := gm_7 197 rfl rfl
theorem kw_1638 : (Jvm.Cond.code ({ cls := "JoinedTreesModel", name := "taken", desc := "()I" } : Jvm.MethodName) prog_14_method_27_code (2 : Nat) (Option.some Jvm.ClassFile.FieldType.int)) ∈ gb := gm_7 198 rfl rfl
theorem kw_1639 : (Jvm.Cond.methodLink "JoinedTreesModel" (251 : Nat) ({ cls := "JoinedTreesModel", name := "isReplica", desc := "(I)Z" } : Jvm.MethodName)) ∈ gb := gm_7 199 rfl rfl
theorem kw_1640 : (Jvm.Cond.static ({ cls := "JoinedTreesModel", name := "isReplica", desc := "(I)Z" } : Jvm.MethodName)) ∈ gb := gm_7 200 rfl rfl
theorem kw_1641 : (Jvm.Cond.code ({ cls := "JoinedTreesModel", name := "isReplica", desc := "(I)Z" } : Jvm.MethodName) prog_14_method_6_code (1 : Nat) (Option.some Jvm.ClassFile.FieldType.boolean)) ∈ gb := gm_7 201 rfl rfl
theorem kw_1642 : (Jvm.Cond.methodLink "JoinedTreesModel" (255 : Nat) ({ cls := "JoinedTreesModel", name := "isKey", desc := "(I)Z" } : Jvm.MethodName)) ∈ gb := gm_7 202 rfl rfl
theorem kw_1643 : (Jvm.Cond.static ({ cls := "JoinedTreesModel", name := "isKey", desc := "(I)Z" } : Jvm.MethodName)) ∈ gb := gm_7 203 rfl rfl
theorem kw_1644 : (Jvm.Cond.code ({ cls := "JoinedTreesModel", name := "isKey", desc := "(I)Z" } : Jvm.MethodName) prog_14_method_7_code (1 : Nat) (Option.some Jvm.ClassFile.FieldType.boolean)) ∈ gb := gm_7 204 rfl rfl
theorem kw_1645 : (Jvm.Cond.methodLink "JoinedTreesModel" (258 : Nat) ({ cls := "JoinedTreesModel", name := "kindOf", desc := "(II)I" } : Jvm.MethodName)) ∈ gb := gm_7 205 rfl rfl
theorem kw_1647 : (Jvm.Cond.instanceMethod ({ cls := "JoinedTreesModel", name := "kindOf", desc := "(II)I" } : Jvm.MethodName)) ∈ gb := gm_7 207 rfl rfl
theorem kw_1648 : (Jvm.Cond.code ({ cls := "JoinedTreesModel", name := "kindOf", desc := "(II)I" } : Jvm.MethodName) prog_14_method_13_code (4 : Nat) (Option.some Jvm.ClassFile.FieldType.int)) ∈ gb := gm_7 208 rfl rfl
theorem kw_1649 : (Jvm.Cond.methodLink "JoinedTreesModel" (202 : Nat) ({ cls := "JoinedTreesModel", name := "maker", desc := "(II)I" } : Jvm.MethodName)) ∈ gb := gm_7 209 rfl rfl
theorem kw_1651 : (Jvm.Cond.instanceMethod ({ cls := "JoinedTreesModel", name := "maker", desc := "(II)I" } : Jvm.MethodName)) ∈ gb := gm_7 211 rfl rfl
theorem kw_1652 : (Jvm.Cond.code ({ cls := "JoinedTreesModel", name := "maker", desc := "(II)I" } : Jvm.MethodName) prog_14_method_12_code (4 : Nat) (Option.some Jvm.ClassFile.FieldType.int)) ∈ gb := gm_7 212 rfl rfl
theorem kw_1653 : (Jvm.Cond.methodLink "JoinedTreesModel" (198 : Nat) ({ cls := "JoinedTreesModel", name := "in", desc := "(II)Z" } : Jvm.MethodName)) ∈ gb := gm_7 213 rfl rfl
theorem kw_1655 : (Jvm.Cond.instanceMethod ({ cls := "JoinedTreesModel", name := "in", desc := "(II)Z" } : Jvm.MethodName)) ∈ gb := gm_7 215 rfl rfl
theorem kw_1656 : (Jvm.Cond.code ({ cls := "JoinedTreesModel", name := "in", desc := "(II)Z" } : Jvm.MethodName) prog_14_method_8_code (3 : Nat) (Option.some Jvm.ClassFile.FieldType.boolean)) ∈ gb := gm_7 216 rfl rfl
theorem kw_1657 : (Jvm.Cond.methodLink "JoinedTreesModel" (261 : Nat) ({ cls := "JoinedTreesModel", name := "full", desc := "(II)Z" } : Jvm.MethodName)) ∈ gb := gm_7 217 rfl rfl
theorem kw_1659 : (Jvm.Cond.instanceMethod ({ cls := "JoinedTreesModel", name := "full", desc := "(II)Z" } : Jvm.MethodName)) ∈ gb := gm_7 219 rfl rfl
theorem kw_1660 : (Jvm.Cond.code ({ cls := "JoinedTreesModel", name := "full", desc := "(II)Z" } : Jvm.MethodName) prog_14_method_26_code (3 : Nat) (Option.some Jvm.ClassFile.FieldType.boolean)) ∈ gb := gm_7 220 rfl rfl
theorem kw_1661 : (Jvm.Cond.methodLink "JoinedTreesModel" (264 : Nat) ({ cls := "JoinedTreesModel", name := "setKey", desc := "(II[BIIIJ[BII)I" } : Jvm.MethodName)) ∈ gb := gm_7 221 rfl rfl
theorem kw_1663 : (Jvm.Cond.instanceMethod ({ cls := "JoinedTreesModel", name := "setKey", desc := "(II[BIIIJ[BII)I" } : Jvm.MethodName)) ∈ gb := gm_7 223 rfl rfl
theorem kw_1664 : (Jvm.Cond.code ({ cls := "JoinedTreesModel", name := "setKey", desc := "(II[BIIIJ[BII)I" } : Jvm.MethodName) prog_14_method_29_code (13 : Nat) (Option.some Jvm.ClassFile.FieldType.int)) ∈ gb := gm_7 224 rfl rfl
theorem kw_1665 : (Jvm.Cond.methodLink "JoinedTreesModel" (268 : Nat) ({ cls := "JoinedTreesModel", name := "keyCandidates", desc := "(II[BII)V" } : Jvm.MethodName)) ∈ gb := gm_7 225 rfl rfl
theorem kw_1667 : (Jvm.Cond.instanceMethod ({ cls := "JoinedTreesModel", name := "keyCandidates", desc := "(II[BII)V" } : Jvm.MethodName)) ∈ gb := gm_7 227 rfl rfl
theorem kw_1668 : (Jvm.Cond.code ({ cls := "JoinedTreesModel", name := "keyCandidates", desc := "(II[BII)V" } : Jvm.MethodName) prog_14_method_15_code (8 : Nat) (Option.none : Option Jvm.ClassFile.FieldType)) ∈ gb := gm_7 228 rfl rfl
theorem kw_1669 : (Jvm.Cond.methodLink "JoinedTreesModel" (206 : Nat) ({ cls := "JoinedTreesModel", name := "hide", desc := "(I)V" } : Jvm.MethodName)) ∈ gb := gm_7 229 rfl rfl
theorem kw_1671 : (Jvm.Cond.instanceMethod ({ cls := "JoinedTreesModel", name := "hide", desc := "(I)V" } : Jvm.MethodName)) ∈ gb := gm_7 231 rfl rfl
theorem kw_1672 : (Jvm.Cond.code ({ cls := "JoinedTreesModel", name := "hide", desc := "(I)V" } : Jvm.MethodName) prog_14_method_10_code (4 : Nat) (Option.none : Option Jvm.ClassFile.FieldType)) ∈ gb := gm_7 232 rfl rfl
theorem kw_1673 : (Jvm.Cond.methodLink "JoinedTreesModel" (213 : Nat) ({ cls := "JoinedTreesModel", name := "visible", desc := "(II)Z" } : Jvm.MethodName)) ∈ gb := gm_7 233 rfl rfl
theorem kw_1675 : (Jvm.Cond.instanceMethod ({ cls := "JoinedTreesModel", name := "visible", desc := "(II)Z" } : Jvm.MethodName)) ∈ gb := gm_7 235 rfl rfl
theorem kw_1676 : (Jvm.Cond.code ({ cls := "JoinedTreesModel", name := "visible", desc := "(II)Z" } : Jvm.MethodName) prog_14_method_11_code (3 : Nat) (Option.some Jvm.ClassFile.FieldType.boolean)) ∈ gb := gm_7 236 rfl rfl
theorem kw_1677 : (Jvm.Cond.methodLink "JoinedTreesModel" (216 : Nat) ({ cls := "JoinedTreesModel", name := "sameKey", desc := "(I[BII)Z" } : Jvm.MethodName)) ∈ gb := gm_7 237 rfl rfl
theorem kw_1679 : (Jvm.Cond.instanceMethod ({ cls := "JoinedTreesModel", name := "sameKey", desc := "(I[BII)Z" } : Jvm.MethodName)) ∈ gb := gm_7 239 rfl rfl
theorem kw_1680 : (Jvm.Cond.code ({ cls := "JoinedTreesModel", name := "sameKey", desc := "(I[BII)Z" } : Jvm.MethodName) prog_14_method_14_code (6 : Nat) (Option.some Jvm.ClassFile.FieldType.boolean)) ∈ gb := gm_8 0 rfl rfl
theorem kw_1681 : (Jvm.Cond.methodLink "JoinedTreesModel" (272 : Nat) ({ cls := "JoinedTreesModel", name := "make", desc := "(IIIJ)I" } : Jvm.MethodName)) ∈ gb := gm_8 1 rfl rfl
theorem kw_1683 : (Jvm.Cond.instanceMethod ({ cls := "JoinedTreesModel", name := "make", desc := "(IIIJ)I" } : Jvm.MethodName)) ∈ gb := gm_8 3 rfl rfl
theorem kw_1684 : (Jvm.Cond.code ({ cls := "JoinedTreesModel", name := "make", desc := "(IIIJ)I" } : Jvm.MethodName) prog_14_method_24_code (8 : Nat) (Option.some Jvm.ClassFile.FieldType.int)) ∈ gb := gm_8 4 rfl rfl
theorem kw_1685 : (Jvm.Cond.methodLink "JoinedTreesModel" (241 : Nat) ({ cls := "JoinedTreesModel", name := "greatest", desc := "(I)I" } : Jvm.MethodName)) ∈ gb := gm_8 5 rfl rfl
theorem kw_1687 : (Jvm.Cond.instanceMethod ({ cls := "JoinedTreesModel", name := "greatest", desc := "(I)I" } : Jvm.MethodName)) ∈ gb := gm_8 7 rfl rfl
theorem kw_1688 : (Jvm.Cond.code ({ cls := "JoinedTreesModel", name := "greatest", desc := "(I)I" } : Jvm.MethodName) prog_14_method_22_code (4 : Nat) (Option.some Jvm.ClassFile.FieldType.int)) ∈ gb := gm_8 8 rfl rfl
theorem kw_1689 : (Jvm.Cond.methodLink "JoinedTreesModel" (230 : Nat) ({ cls := "JoinedTreesModel", name := "owns", desc := "(II)Z" } : Jvm.MethodName)) ∈ gb := gm_8 9 rfl rfl
theorem kw_1691 : (Jvm.Cond.instanceMethod ({ cls := "JoinedTreesModel", name := "owns", desc := "(II)Z" } : Jvm.MethodName)) ∈ gb := gm_8 11 rfl rfl
theorem kw_1692 : (Jvm.Cond.code ({ cls := "JoinedTreesModel", name := "owns", desc := "(II)Z" } : Jvm.MethodName) prog_14_method_9_code (3 : Nat) (Option.some Jvm.ClassFile.FieldType.boolean)) ∈ gb := gm_8 12 rfl rfl
theorem kw_1693 : (Jvm.Cond.methodLink "JoinedTreesModel" (233 : Nat) ({ cls := "java/lang/Math", name := "max", desc := "(II)I" } : Jvm.MethodName)) ∈ gb := gm_8 13 rfl rfl
theorem kw_1694 : (Jvm.Cond.methodLink "JoinedTreesModel" (276 : Nat) ({ cls := "JoinedTreesModel", name := "follows", desc := "(IZ)V" } : Jvm.MethodName)) ∈ gb := gm_8 14 rfl rfl
theorem kw_1696 : (Jvm.Cond.instanceMethod ({ cls := "JoinedTreesModel", name := "follows", desc := "(IZ)V" } : Jvm.MethodName)) ∈ gb := gm_8 16 rfl rfl
theorem kw_1697 : (Jvm.Cond.code ({ cls := "JoinedTreesModel", name := "follows", desc := "(IZ)V" } : Jvm.MethodName) prog_14_method_25_code (4 : Nat) (Option.none : Option Jvm.ClassFile.FieldType)) ∈ gb := gm_8 17 rfl rfl
theorem kw_1698 : (Jvm.Cond.methodLink "JoinedTreesModel" (280 : Nat) ({ cls := "JoinedTreesModel", name := "keep", desc := "([BII)I" } : Jvm.MethodName)) ∈ gb := gm_8 18 rfl rfl
theorem kw_1700 : (Jvm.Cond.instanceMethod ({ cls := "JoinedTreesModel", name := "keep", desc := "([BII)I" } : Jvm.MethodName)) ∈ gb := gm_8 20 rfl rfl
theorem kw_1701 : (Jvm.Cond.code ({ cls := "JoinedTreesModel", name := "keep", desc := "([BII)I" } : Jvm.MethodName) prog_14_method_23_code (5 : Nat) (Option.some Jvm.ClassFile.FieldType.int)) ∈ gb := gm_8 21 rfl rfl
theorem kw_1702 : (Jvm.Cond.methodLink "JoinedTreesModel" (284 : Nat) ({ cls := "JoinedTreesModel", name := "value", desc := "(II[BII)V" } : Jvm.MethodName)) ∈ gb := gm_8 22 rfl rfl
theorem kw_1704 : (Jvm.Cond.instanceMethod ({ cls := "JoinedTreesModel", name := "value", desc := "(II[BII)V" } : Jvm.MethodName)) ∈ gb := gm_8 24 rfl rfl
theorem kw_1705 : (Jvm.Cond.code ({ cls := "JoinedTreesModel", name := "value", desc := "(II[BII)V" } : Jvm.MethodName) prog_14_method_30_code (6 : Nat) (Option.none : Option Jvm.ClassFile.FieldType)) ∈ gb := gm_8 25 rfl rfl
theorem kw_1706 : (Jvm.Cond.methodLink "JoinedTreesLaw" (137 : Nat) ({ cls := "JoinedTreesModel", name := "put", desc := "(IIIIJ)I" } : Jvm.MethodName)) ∈ gb := gm_8 26 rfl rfl
theorem kw_1707 : (Jvm.Cond.instanceMethod ({ cls := "JoinedTreesModel", name := "put", desc := "(IIIIJ)I" } : Jvm.MethodName)) ∈ gb := gm_8 27 rfl rfl
theorem kw_1708 : (Jvm.Cond.selects "JoinedTreesModel" ({ cls := "JoinedTreesModel", name := "put", desc := "(IIIIJ)I" } : Jvm.MethodName) ({ cls := "JoinedTreesModel", name := "put", desc := "(IIIIJ)I" } : Jvm.MethodName)) ∈ gb := gm_8 28 rfl rfl
theorem kw_1709 : (Jvm.Cond.code ({ cls := "JoinedTreesModel", name := "put", desc := "(IIIIJ)I" } : Jvm.MethodName) prog_14_method_31_code (12 : Nat) (Option.some Jvm.ClassFile.FieldType.int)) ∈ gb := gm_8 29 rfl rfl
theorem kw_1710 : (Jvm.Cond.methodLink "JoinedTreesModel" (287 : Nat) ({ cls := "JoinedTreesModel", name := "at", desc := "(III)I" } : Jvm.MethodName)) ∈ gb := gm_8 30 rfl rfl
theorem kw_1712 : (Jvm.Cond.instanceMethod ({ cls := "JoinedTreesModel", name := "at", desc := "(III)I" } : Jvm.MethodName)) ∈ gb := gm_8 32 rfl rfl
theorem kw_1713 : (Jvm.Cond.code ({ cls := "JoinedTreesModel", name := "at", desc := "(III)I" } : Jvm.MethodName) prog_14_method_19_code (6 : Nat) (Option.some Jvm.ClassFile.FieldType.int)) ∈ gb := gm_8 33 rfl rfl
theorem kw_1714 : (Jvm.Cond.methodLink "JoinedTreesModel" (223 : Nat) ({ cls := "JoinedTreesModel", name := "list", desc := "(II)V" } : Jvm.MethodName)) ∈ gb := gm_8 34 rfl rfl
theorem kw_1716 : (Jvm.Cond.instanceMethod ({ cls := "JoinedTreesModel", name := "list", desc := "(II)V" } : Jvm.MethodName)) ∈ gb := gm_8 36 rfl rfl
theorem kw_1717 : (Jvm.Cond.code ({ cls := "JoinedTreesModel", name := "list", desc := "(II)V" } : Jvm.MethodName) prog_14_method_17_code (7 : Nat) (Option.none : Option Jvm.ClassFile.FieldType)) ∈ gb := gm_8 37 rfl rfl
theorem kw_1718 : (Jvm.Cond.methodLink "JoinedTreesModel" (227 : Nat) ({ cls := "JoinedTreesModel", name := "mark", desc := "(II)V" } : Jvm.MethodName)) ∈ gb := gm_8 38 rfl rfl
theorem kw_1720 : (Jvm.Cond.instanceMethod ({ cls := "JoinedTreesModel", name := "mark", desc := "(II)V" } : Jvm.MethodName)) ∈ gb := gm_8 40 rfl rfl
theorem kw_1721 : (Jvm.Cond.code ({ cls := "JoinedTreesModel", name := "mark", desc := "(II)V" } : Jvm.MethodName) prog_14_method_18_code (6 : Nat) (Option.none : Option Jvm.ClassFile.FieldType)) ∈ gb := gm_8 41 rfl rfl
theorem kw_1722 : (Jvm.Cond.methodLink "JoinedTreesModel" (291 : Nat) ({ cls := "JoinedTreesModel", name := "elementCandidates", desc := "(III)V" } : Jvm.MethodName)) ∈ gb := gm_8 42 rfl rfl
theorem kw_1724 : (Jvm.Cond.instanceMethod ({ cls := "JoinedTreesModel", name := "elementCandidates", desc := "(III)V" } : Jvm.MethodName)) ∈ gb := gm_8 44 rfl rfl
theorem kw_1725 : (Jvm.Cond.code ({ cls := "JoinedTreesModel", name := "elementCandidates", desc := "(III)V" } : Jvm.MethodName) prog_14_method_16_code (6 : Nat) (Option.none : Option Jvm.ClassFile.FieldType)) ∈ gb := gm_8 45 rfl rfl
theorem kw_1726 : (Jvm.Cond.methodLink "JoinedTreesLaw" (140 : Nat) ({ cls := "JoinedTreesModel", name := "insert", desc := "(IIIIJ)I" } : Jvm.MethodName)) ∈ gb := gm_8 46 rfl rfl
theorem kw_1727 : (Jvm.Cond.instanceMethod ({ cls := "JoinedTreesModel", name := "insert", desc := "(IIIIJ)I" } : Jvm.MethodName)) ∈ gb := gm_8 47 rfl rfl
theorem kw_1728 : (Jvm.Cond.selects "JoinedTreesModel" ({ cls := "JoinedTreesModel", name := "insert", desc := "(IIIIJ)I" } : Jvm.MethodName) ({ cls := "JoinedTreesModel", name := "insert", desc := "(IIIIJ)I" } : Jvm.MethodName)) ∈ gb := gm_8 48 rfl rfl
theorem kw_1729 : (Jvm.Cond.code ({ cls := "JoinedTreesModel", name := "insert", desc := "(IIIIJ)I" } : Jvm.MethodName) prog_14_method_33_code (10 : Nat) (Option.some Jvm.ClassFile.FieldType.int)) ∈ gb := gm_8 49 rfl rfl
theorem kw_1730 : (Jvm.Cond.methodLink "JoinedTreesModel" (295 : Nat) ({ cls := "JoinedTreesModel", name := "indices", desc := "(II)I" } : Jvm.MethodName)) ∈ gb := gm_8 50 rfl rfl
theorem kw_1732 : (Jvm.Cond.instanceMethod ({ cls := "JoinedTreesModel", name := "indices", desc := "(II)I" } : Jvm.MethodName)) ∈ gb := gm_8 52 rfl rfl
theorem kw_1733 : (Jvm.Cond.code ({ cls := "JoinedTreesModel", name := "indices", desc := "(II)I" } : Jvm.MethodName) prog_14_method_20_code (5 : Nat) (Option.some Jvm.ClassFile.FieldType.int)) ∈ gb := gm_8 53 rfl rfl
theorem kw_1734 : (Jvm.Cond.methodLink "JoinedTreesModel" (298 : Nat) ({ cls := "JoinedTreesModel", name := "insertBehind", desc := "(IIIIJ[BII)I" } : Jvm.MethodName)) ∈ gb := gm_8 54 rfl rfl
theorem kw_1736 : (Jvm.Cond.instanceMethod ({ cls := "JoinedTreesModel", name := "insertBehind", desc := "(IIIIJ[BII)I" } : Jvm.MethodName)) ∈ gb := gm_8 56 rfl rfl
theorem kw_1737 : (Jvm.Cond.code ({ cls := "JoinedTreesModel", name := "insertBehind", desc := "(IIIIJ[BII)I" } : Jvm.MethodName) prog_14_method_32_code (11 : Nat) (Option.some Jvm.ClassFile.FieldType.int)) ∈ gb := gm_8 57 rfl rfl
theorem kw_1738 : (Jvm.Cond.methodLink "JoinedTreesLaw" (144 : Nat) ({ cls := "JoinedTreesModel", name := "splice", desc := "(IIII)I" } : Jvm.MethodName)) ∈ gb := gm_8 58 rfl rfl
theorem kw_1739 : (Jvm.Cond.instanceMethod ({ cls := "JoinedTreesModel", name := "splice", desc := "(IIII)I" } : Jvm.MethodName)) ∈ gb := gm_8 59 rfl rfl
theorem kw_1740 : (Jvm.Cond.selects "JoinedTreesModel" ({ cls := "JoinedTreesModel", name := "splice", desc := "(IIII)I" } : Jvm.MethodName) ({ cls := "JoinedTreesModel", name := "splice", desc := "(IIII)I" } : Jvm.MethodName)) ∈ gb := gm_8 60 rfl rfl
theorem kw_1741 : (Jvm.Cond.code ({ cls := "JoinedTreesModel", name := "splice", desc := "(IIII)I" } : Jvm.MethodName) prog_14_method_34_code (10 : Nat) (Option.some Jvm.ClassFile.FieldType.int)) ∈ gb := gm_8 61 rfl rfl
theorem kw_1742 : (Jvm.Cond.methodLink "JoinedTreesLaw" (148 : Nat) ({ cls := "JoinedTreesModel", name := "erase", desc := "(III)I" } : Jvm.MethodName)) ∈ gb := gm_8 62 rfl rfl
theorem kw_1743 : (Jvm.Cond.instanceMethod ({ cls := "JoinedTreesModel", name := "erase", desc := "(III)I" } : Jvm.MethodName)) ∈ gb := gm_8 63 rfl rfl
theorem kw_1744 : (Jvm.Cond.selects "JoinedTreesModel" ({ cls := "JoinedTreesModel", name := "erase", desc := "(III)I" } : Jvm.MethodName) ({ cls := "JoinedTreesModel", name := "erase", desc := "(III)I" } : Jvm.MethodName)) ∈ gb := gm_8 64 rfl rfl
theorem kw_1745 : (Jvm.Cond.code ({ cls := "JoinedTreesModel", name := "erase", desc := "(III)I" } : Jvm.MethodName) prog_14_method_37_code (4 : Nat) (Option.some Jvm.ClassFile.FieldType.int)) ∈ gb := gm_8 65 rfl rfl
theorem kw_1746 : (Jvm.Cond.methodLink "JoinedTreesModel" (309 : Nat) ({ cls := "JoinedTreesModel", name := "act", desc := "(IIIIJ)I" } : Jvm.MethodName)) ∈ gb := gm_8 66 rfl rfl
theorem kw_1748 : (Jvm.Cond.instanceMethod ({ cls := "JoinedTreesModel", name := "act", desc := "(IIIIJ)I" } : Jvm.MethodName)) ∈ gb := gm_8 68 rfl rfl
theorem kw_1749 : (Jvm.Cond.code ({ cls := "JoinedTreesModel", name := "act", desc := "(IIIIJ)I" } : Jvm.MethodName) prog_14_method_36_code (11 : Nat) (Option.some Jvm.ClassFile.FieldType.int)) ∈ gb := gm_8 69 rfl rfl
theorem kw_1750 : (Jvm.Cond.methodLink "JoinedTreesModel" (305 : Nat) ({ cls := "JoinedTreesModel", name := "point", desc := "(IIIII)I" } : Jvm.MethodName)) ∈ gb := gm_8 70 rfl rfl
theorem kw_1752 : (Jvm.Cond.instanceMethod ({ cls := "JoinedTreesModel", name := "point", desc := "(IIIII)I" } : Jvm.MethodName)) ∈ gb := gm_8 72 rfl rfl
theorem kw_1753 : (Jvm.Cond.code ({ cls := "JoinedTreesModel", name := "point", desc := "(IIIII)I" } : Jvm.MethodName) prog_14_method_35_code (8 : Nat) (Option.some Jvm.ClassFile.FieldType.int)) ∈ gb := gm_8 73 rfl rfl
theorem kw_1754 : (Jvm.Cond.methodLink "JoinedTreesLaw" (151 : Nat) ({ cls := "JoinedTreesModel", name := "add", desc := "(IIIJ)I" } : Jvm.MethodName)) ∈ gb := gm_8 74 rfl rfl
theorem kw_1755 : (Jvm.Cond.instanceMethod ({ cls := "JoinedTreesModel", name := "add", desc := "(IIIJ)I" } : Jvm.MethodName)) ∈ gb := gm_8 75 rfl rfl
theorem kw_1756 : (Jvm.Cond.selects "JoinedTreesModel" ({ cls := "JoinedTreesModel", name := "add", desc := "(IIIJ)I" } : Jvm.MethodName) ({ cls := "JoinedTreesModel", name := "add", desc := "(IIIJ)I" } : Jvm.MethodName)) ∈ gb := gm_8 76 rfl rfl
theorem kw_1757 : (Jvm.Cond.code ({ cls := "JoinedTreesModel", name := "add", desc := "(IIIJ)I" } : Jvm.MethodName) prog_14_method_38_code (6 : Nat) (Option.some Jvm.ClassFile.FieldType.int)) ∈ gb := gm_8 77 rfl rfl
theorem kw_1758 : (Jvm.Cond.methodLink "JoinedTreesLaw" (155 : Nat) ({ cls := "JoinedTreesModel", name := "read", desc := "(II)I" } : Jvm.MethodName)) ∈ gb := gm_8 78 rfl rfl
theorem kw_1759 : (Jvm.Cond.instanceMethod ({ cls := "JoinedTreesModel", name := "read", desc := "(II)I" } : Jvm.MethodName)) ∈ gb := gm_8 79 rfl rfl
theorem kw_1760 : (Jvm.Cond.selects "JoinedTreesModel" ({ cls := "JoinedTreesModel", name := "read", desc := "(II)I" } : Jvm.MethodName) ({ cls := "JoinedTreesModel", name := "read", desc := "(II)I" } : Jvm.MethodName)) ∈ gb := gm_8 80 rfl rfl
theorem kw_1761 : (Jvm.Cond.code ({ cls := "JoinedTreesModel", name := "read", desc := "(II)I" } : Jvm.MethodName) prog_14_method_49_code (8 : Nat) (Option.some Jvm.ClassFile.FieldType.int)) ∈ gb := gm_8 81 rfl rfl
theorem kw_1762 : (Jvm.Cond.methodLink "JoinedTreesModel" (380 : Nat) ({ cls := "JoinedTreesModel", name := "json", desc := "()Z" } : Jvm.MethodName)) ∈ gb := gm_8 82 rfl rfl
theorem kw_1764 : (Jvm.Cond.instanceMethod ({ cls := "JoinedTreesModel", name := "json", desc := "()Z" } : Jvm.MethodName)) ∈ gb := gm_8 84 rfl rfl
theorem kw_1765 : (Jvm.Cond.code ({ cls := "JoinedTreesModel", name := "json", desc := "()Z" } : Jvm.MethodName) prog_14_method_48_code (3 : Nat) (Option.some Jvm.ClassFile.FieldType.boolean)) ∈ gb := gm_8 85 rfl rfl
theorem kw_1766 : (Jvm.Cond.methodLink "JoinedTreesModel" (374 : Nat) ({ cls := "JoinedTreesModel", name := "one", desc := "(II)V" } : Jvm.MethodName)) ∈ gb := gm_8 86 rfl rfl
theorem kw_1768 : (Jvm.Cond.instanceMethod ({ cls := "JoinedTreesModel", name := "one", desc := "(II)V" } : Jvm.MethodName)) ∈ gb := gm_8 88 rfl rfl
theorem kw_1769 : (Jvm.Cond.code ({ cls := "JoinedTreesModel", name := "one", desc := "(II)V" } : Jvm.MethodName) prog_14_method_45_code (6 : Nat) (Option.none : Option Jvm.ClassFile.FieldType)) ∈ gb := gm_8 89 rfl rfl
theorem kw_1770 : (Jvm.Cond.methodLink "JoinedTreesModel" (342 : Nat) ({ cls := "JoinedTreesModel", name := "skip", desc := "()V" } : Jvm.MethodName)) ∈ gb := gm_8 90 rfl rfl
theorem kw_1772 : (Jvm.Cond.instanceMethod ({ cls := "JoinedTreesModel", name := "skip", desc := "()V" } : Jvm.MethodName)) ∈ gb := gm_8 92 rfl rfl
theorem kw_1773 : (Jvm.Cond.code ({ cls := "JoinedTreesModel", name := "skip", desc := "()V" } : Jvm.MethodName) prog_14_method_40_code (1 : Nat) (Option.none : Option Jvm.ClassFile.FieldType)) ∈ gb := gm_8 93 rfl rfl
theorem kw_1774 : (Jvm.Cond.methodLink "JoinedTreesModel" (316 : Nat) ({ cls := "JoinedTreesModel", name := "sign", desc := "()I" } : Jvm.MethodName)) ∈ gb := gm_8 94 rfl rfl
theorem kw_1776 : (Jvm.Cond.instanceMethod ({ cls := "JoinedTreesModel", name := "sign", desc := "()I" } : Jvm.MethodName)) ∈ gb := gm_8 96 rfl rfl
theorem kw_1777 : (Jvm.Cond.code ({ cls := "JoinedTreesModel", name := "sign", desc := "()I" } : Jvm.MethodName) prog_14_method_39_code (1 : Nat) (Option.some Jvm.ClassFile.FieldType.int)) ∈ gb := gm_8 97 rfl rfl
theorem kw_1781 : (Jvm.Cond.methodLink "JoinedTreesModel" (357 : Nat) ({ cls := "JoinedTreesModel", name := "word", desc := "(Ljava/lang/String;)V" } : Jvm.MethodName)) ∈ gb := gm_8 101 rfl rfl
theorem kw_1783 : (Jvm.Cond.instanceMethod ({ cls := "JoinedTreesModel", name := "word", desc := "(Ljava/lang/String;)V" } : Jvm.MethodName)) ∈ gb := gm_8 103 rfl rfl
theorem kw_1784 : (Jvm.Cond.code ({ cls := "JoinedTreesModel", name := "word", desc := "(Ljava/lang/String;)V" } : Jvm.MethodName) prog_14_method_41_code (3 : Nat) (Option.none : Option Jvm.ClassFile.FieldType)) ∈ gb := gm_8 104 rfl rfl
theorem kw_1785 : (Jvm.Cond.methodLink "JoinedTreesModel" (319 : Nat) ({ cls := "java/lang/String", name := "length", desc := "()I" } : Jvm.MethodName)) ∈ gb := gm_8 105 rfl rfl
theorem kw_1786 : (Jvm.Cond.methodLink "JoinedTreesModel" (328 : Nat) ({ cls := "java/lang/String", name := "charAt", desc := "(I)C" } : Jvm.MethodName)) ∈ gb := gm_8 106 rfl rfl
theorem kw_1787 : (Jvm.Cond.methodLink "JoinedTreesModel" (361 : Nat) ({ cls := "JoinedTreesModel", name := "string", desc := "(I)I" } : Jvm.MethodName)) ∈ gb := gm_8 107 rfl rfl
theorem kw_1789 : (Jvm.Cond.instanceMethod ({ cls := "JoinedTreesModel", name := "string", desc := "(I)I" } : Jvm.MethodName)) ∈ gb := gm_8 109 rfl rfl
theorem kw_1790 : (Jvm.Cond.code ({ cls := "JoinedTreesModel", name := "string", desc := "(I)I" } : Jvm.MethodName) prog_14_method_43_code (8 : Nat) (Option.some Jvm.ClassFile.FieldType.int)) ∈ gb := gm_8 110 rfl rfl
theorem kw_1791 : (Jvm.Cond.methodLink "JoinedTreesModel" (335 : Nat) ({ cls := "JoinedTreesModel", name := "hex", desc := "(I)I" } : Jvm.MethodName)) ∈ gb := gm_8 111 rfl rfl
theorem kw_1792 : (Jvm.Cond.static ({ cls := "JoinedTreesModel", name := "hex", desc := "(I)I" } : Jvm.MethodName)) ∈ gb := gm_8 112 rfl rfl
theorem kw_1793 : (Jvm.Cond.code ({ cls := "JoinedTreesModel", name := "hex", desc := "(I)I" } : Jvm.MethodName) prog_14_method_42_code (1 : Nat) (Option.some Jvm.ClassFile.FieldType.int)) ∈ gb := gm_8 113 rfl rfl
theorem kw_1794 : (Jvm.Cond.methodLink "JoinedTreesModel" (367 : Nat) ({ cls := "JoinedTreesModel", name := "digits", desc := "(I)V" } : Jvm.MethodName)) ∈ gb := gm_8 114 rfl rfl
theorem kw_1796 : (Jvm.Cond.instanceMethod ({ cls := "JoinedTreesModel", name := "digits", desc := "(I)V" } : Jvm.MethodName)) ∈ gb := gm_8 116 rfl rfl
theorem kw_1797 : (Jvm.Cond.code ({ cls := "JoinedTreesModel", name := "digits", desc := "(I)V" } : Jvm.MethodName) prog_14_method_44_code (7 : Nat) (Option.none : Option Jvm.ClassFile.FieldType)) ∈ gb := gm_8 117 rfl rfl
theorem kw_1798 : (Jvm.Cond.constantLong "JoinedTreesModel" (338 : Nat) (10 : Int64)) ∈ gb := gm_8 118 rfl rfl
theorem kw_1799 : (Jvm.Cond.constantLong "JoinedTreesModel" (340 : Nat) (48 : Int64)) ∈ gb := gm_8 119 rfl rfl
theorem kw_1800 : (Jvm.Cond.methodLink "JoinedTreesModel" (377 : Nat) ({ cls := "JoinedTreesModel", name := "member", desc := "()V" } : Jvm.MethodName)) ∈ gb := gm_8 120 rfl rfl
theorem kw_1802 : (Jvm.Cond.instanceMethod ({ cls := "JoinedTreesModel", name := "member", desc := "()V" } : Jvm.MethodName)) ∈ gb := gm_8 122 rfl rfl
theorem kw_1803 : (Jvm.Cond.code ({ cls := "JoinedTreesModel", name := "member", desc := "()V" } : Jvm.MethodName) prog_14_method_46_code (3 : Nat) (Option.none : Option Jvm.ClassFile.FieldType)) ∈ gb := gm_8 123 rfl rfl
theorem kw_1804 : (Jvm.Cond.methodLink "JoinedTreesModel" (370 : Nat) ({ cls := "JoinedTreesModel", name := "keyThere", desc := "(III)Z" } : Jvm.MethodName)) ∈ gb := gm_8 124 rfl rfl
theorem kw_1806 : (Jvm.Cond.instanceMethod ({ cls := "JoinedTreesModel", name := "keyThere", desc := "(III)Z" } : Jvm.MethodName)) ∈ gb := gm_8 126 rfl rfl
theorem kw_1807 : (Jvm.Cond.code ({ cls := "JoinedTreesModel", name := "keyThere", desc := "(III)Z" } : Jvm.MethodName) prog_14_method_47_code (6 : Nat) (Option.some Jvm.ClassFile.FieldType.boolean)) ∈ gb := gm_8 127 rfl rfl
theorem kw_1808 : (Jvm.Cond.methodLink "JoinedTreesLaw" (158 : Nat) ({ cls := "JoinedTreesModel", name := "commit", desc := "(I)I" } : Jvm.MethodName)) ∈ gb := gm_8 128 rfl rfl
theorem kw_1809 : (Jvm.Cond.instanceMethod ({ cls := "JoinedTreesModel", name := "commit", desc := "(I)I" } : Jvm.MethodName)) ∈ gb := gm_8 129 rfl rfl
theorem kw_1810 : (Jvm.Cond.selects "JoinedTreesModel" ({ cls := "JoinedTreesModel", name := "commit", desc := "(I)I" } : Jvm.MethodName) ({ cls := "JoinedTreesModel", name := "commit", desc := "(I)I" } : Jvm.MethodName)) ∈ gb := gm_8 130 rfl rfl
theorem kw_1811 : (Jvm.Cond.code ({ cls := "JoinedTreesModel", name := "commit", desc := "(I)I" } : Jvm.MethodName) prog_14_method_53_code (4 : Nat) (Option.some Jvm.ClassFile.FieldType.int)) ∈ gb := gm_8 131 rfl rfl
theorem kw_1812 : (Jvm.Cond.methodLink "JoinedTreesModel" (387 : Nat) ({ cls := "JoinedTreesModel", name := "open", desc := "(I)I" } : Jvm.MethodName)) ∈ gb := gm_8 132 rfl rfl
theorem kw_1814 : (Jvm.Cond.instanceMethod ({ cls := "JoinedTreesModel", name := "open", desc := "(I)I" } : Jvm.MethodName)) ∈ gb := gm_8 134 rfl rfl
theorem kw_1815 : (Jvm.Cond.code ({ cls := "JoinedTreesModel", name := "open", desc := "(I)I" } : Jvm.MethodName) prog_14_method_50_code (4 : Nat) (Option.some Jvm.ClassFile.FieldType.int)) ∈ gb := gm_8 135 rfl rfl
theorem kw_1816 : (Jvm.Cond.methodLink "JoinedTreesModel" (390 : Nat) ({ cls := "JoinedTreesModel", name := "numberOf", desc := "(II)I" } : Jvm.MethodName)) ∈ gb := gm_8 136 rfl rfl
theorem kw_1818 : (Jvm.Cond.instanceMethod ({ cls := "JoinedTreesModel", name := "numberOf", desc := "(II)I" } : Jvm.MethodName)) ∈ gb := gm_8 138 rfl rfl
theorem kw_1819 : (Jvm.Cond.code ({ cls := "JoinedTreesModel", name := "numberOf", desc := "(II)I" } : Jvm.MethodName) prog_14_method_52_code (5 : Nat) (Option.some Jvm.ClassFile.FieldType.int)) ∈ gb := gm_8 139 rfl rfl
theorem kw_1820 : (Jvm.Cond.methodLink "JoinedTreesModel" (396 : Nat) ({ cls := "JoinedTreesModel", name := "isHead", desc := "(II)Z" } : Jvm.MethodName)) ∈ gb := gm_8 140 rfl rfl
theorem kw_1822 : (Jvm.Cond.instanceMethod ({ cls := "JoinedTreesModel", name := "isHead", desc := "(II)Z" } : Jvm.MethodName)) ∈ gb := gm_8 142 rfl rfl
theorem kw_1823 : (Jvm.Cond.code ({ cls := "JoinedTreesModel", name := "isHead", desc := "(II)Z" } : Jvm.MethodName) prog_14_method_51_code (5 : Nat) (Option.some Jvm.ClassFile.FieldType.boolean)) ∈ gb := gm_8 143 rfl rfl
theorem kw_1824 : (Jvm.Cond.methodLink "JoinedTreesLaw" (161 : Nat) ({ cls := "JoinedTreesModel", name := "drop", desc := "(I)I" } : Jvm.MethodName)) ∈ gb := gm_8 144 rfl rfl
theorem kw_1825 : (Jvm.Cond.instanceMethod ({ cls := "JoinedTreesModel", name := "drop", desc := "(I)I" } : Jvm.MethodName)) ∈ gb := gm_8 145 rfl rfl
theorem kw_1826 : (Jvm.Cond.selects "JoinedTreesModel" ({ cls := "JoinedTreesModel", name := "drop", desc := "(I)I" } : Jvm.MethodName) ({ cls := "JoinedTreesModel", name := "drop", desc := "(I)I" } : Jvm.MethodName)) ∈ gb := gm_8 146 rfl rfl
theorem kw_1827 : (Jvm.Cond.code ({ cls := "JoinedTreesModel", name := "drop", desc := "(I)I" } : Jvm.MethodName) prog_14_method_54_code (4 : Nat) (Option.some Jvm.ClassFile.FieldType.int)) ∈ gb := gm_8 147 rfl rfl
theorem kw_1828 : (Jvm.Cond.methodLink "JoinedTreesLaw" (164 : Nat) ({ cls := "JoinedTreesModel", name := "send", desc := "(IIII)I" } : Jvm.MethodName)) ∈ gb := gm_8 148 rfl rfl
theorem kw_1829 : (Jvm.Cond.instanceMethod ({ cls := "JoinedTreesModel", name := "send", desc := "(IIII)I" } : Jvm.MethodName)) ∈ gb := gm_8 149 rfl rfl
theorem kw_1830 : (Jvm.Cond.selects "JoinedTreesModel" ({ cls := "JoinedTreesModel", name := "send", desc := "(IIII)I" } : Jvm.MethodName) ({ cls := "JoinedTreesModel", name := "send", desc := "(IIII)I" } : Jvm.MethodName)) ∈ gb := gm_8 150 rfl rfl
theorem kw_1831 : (Jvm.Cond.code ({ cls := "JoinedTreesModel", name := "send", desc := "(IIII)I" } : Jvm.MethodName) prog_14_method_58_code (6 : Nat) (Option.some Jvm.ClassFile.FieldType.int)) ∈ gb := gm_8 151 rfl rfl
theorem kw_1832 : (Jvm.Cond.methodLink "JoinedTreesModel" (399 : Nat) ({ cls := "JoinedTreesModel", name := "find", desc := "(II)I" } : Jvm.MethodName)) ∈ gb := gm_8 152 rfl rfl
theorem kw_1834 : (Jvm.Cond.instanceMethod ({ cls := "JoinedTreesModel", name := "find", desc := "(II)I" } : Jvm.MethodName)) ∈ gb := gm_8 154 rfl rfl
theorem kw_1835 : (Jvm.Cond.code ({ cls := "JoinedTreesModel", name := "find", desc := "(II)I" } : Jvm.MethodName) prog_14_method_55_code (4 : Nat) (Option.some Jvm.ClassFile.FieldType.int)) ∈ gb := gm_8 155 rfl rfl
theorem kw_1836 : (Jvm.Cond.methodLink "JoinedTreesModel" (405 : Nat) ({ cls := "JoinedTreesModel", name := "settle", desc := "(I)I" } : Jvm.MethodName)) ∈ gb := gm_8 156 rfl rfl
theorem kw_1838 : (Jvm.Cond.instanceMethod ({ cls := "JoinedTreesModel", name := "settle", desc := "(I)I" } : Jvm.MethodName)) ∈ gb := gm_8 158 rfl rfl
theorem kw_1839 : (Jvm.Cond.code ({ cls := "JoinedTreesModel", name := "settle", desc := "(I)I" } : Jvm.MethodName) prog_14_method_57_code (4 : Nat) (Option.some Jvm.ClassFile.FieldType.int)) ∈ gb := gm_8 159 rfl rfl
theorem kw_1840 : (Jvm.Cond.methodLink "JoinedTreesModel" (402 : Nat) ({ cls := "JoinedTreesModel", name := "ready", desc := "(II)Z" } : Jvm.MethodName)) ∈ gb := gm_8 160 rfl rfl
theorem kw_1842 : (Jvm.Cond.instanceMethod ({ cls := "JoinedTreesModel", name := "ready", desc := "(II)Z" } : Jvm.MethodName)) ∈ gb := gm_8 162 rfl rfl
theorem kw_1843 : (Jvm.Cond.code ({ cls := "JoinedTreesModel", name := "ready", desc := "(II)Z" } : Jvm.MethodName) prog_14_method_56_code (4 : Nat) (Option.some Jvm.ClassFile.FieldType.boolean)) ∈ gb := gm_8 163 rfl rfl
theorem kw_1844 : (Jvm.Cond.methodLink "JoinedTreesLaw" (167 : Nat) ({ cls := "JoinedTreesModel", name := "join", desc := "(II)I" } : Jvm.MethodName)) ∈ gb := gm_8 164 rfl rfl
theorem kw_1845 : (Jvm.Cond.instanceMethod ({ cls := "JoinedTreesModel", name := "join", desc := "(II)I" } : Jvm.MethodName)) ∈ gb := gm_8 165 rfl rfl
theorem kw_1846 : (Jvm.Cond.selects "JoinedTreesModel" ({ cls := "JoinedTreesModel", name := "join", desc := "(II)I" } : Jvm.MethodName) ({ cls := "JoinedTreesModel", name := "join", desc := "(II)I" } : Jvm.MethodName)) ∈ gb := gm_8 166 rfl rfl
theorem kw_1847 : (Jvm.Cond.code ({ cls := "JoinedTreesModel", name := "join", desc := "(II)I" } : Jvm.MethodName) prog_14_method_59_code (4 : Nat) (Option.some Jvm.ClassFile.FieldType.int)) ∈ gb := gm_8 167 rfl rfl
theorem kw_1848 : (Jvm.Cond.methodLink "JoinedTreesLaw" (170 : Nat) ({ cls := "JoinedTreesModel", name := "look", desc := "(III)I" } : Jvm.MethodName)) ∈ gb := gm_8 168 rfl rfl
theorem kw_1849 : (Jvm.Cond.instanceMethod ({ cls := "JoinedTreesModel", name := "look", desc := "(III)I" } : Jvm.MethodName)) ∈ gb := gm_8 169 rfl rfl
theorem kw_1850 : (Jvm.Cond.selects "JoinedTreesModel" ({ cls := "JoinedTreesModel", name := "look", desc := "(III)I" } : Jvm.MethodName) ({ cls := "JoinedTreesModel", name := "look", desc := "(III)I" } : Jvm.MethodName)) ∈ gb := gm_8 170 rfl rfl
theorem kw_1851 : (Jvm.Cond.code ({ cls := "JoinedTreesModel", name := "look", desc := "(III)I" } : Jvm.MethodName) prog_14_method_61_code (7 : Nat) (Option.some Jvm.ClassFile.FieldType.int)) ∈ gb := gm_8 171 rfl rfl
theorem kw_1852 : (Jvm.Cond.methodLink "JoinedTreesModel" (408 : Nat) ({ cls := "JoinedTreesModel", name := "view", desc := "(I)I" } : Jvm.MethodName)) ∈ gb := gm_8 172 rfl rfl
theorem kw_1854 : (Jvm.Cond.instanceMethod ({ cls := "JoinedTreesModel", name := "view", desc := "(I)I" } : Jvm.MethodName)) ∈ gb := gm_8 174 rfl rfl
theorem kw_1855 : (Jvm.Cond.code ({ cls := "JoinedTreesModel", name := "view", desc := "(I)I" } : Jvm.MethodName) prog_14_method_60_code (4 : Nat) (Option.some Jvm.ClassFile.FieldType.int)) ∈ gb := gm_8 175 rfl rfl
theorem kw_1856 : (Jvm.Cond.methodLink "JoinedTreesLaw" (173 : Nat) ({ cls := "JoinedTreesModel", name := "object", desc := "(III)I" } : Jvm.MethodName)) ∈ gb := gm_8 176 rfl rfl
theorem kw_1857 : (Jvm.Cond.instanceMethod ({ cls := "JoinedTreesModel", name := "object", desc := "(III)I" } : Jvm.MethodName)) ∈ gb := gm_8 177 rfl rfl
theorem kw_1858 : (Jvm.Cond.selects "JoinedTreesModel" ({ cls := "JoinedTreesModel", name := "object", desc := "(III)I" } : Jvm.MethodName) ({ cls := "JoinedTreesModel", name := "object", desc := "(III)I" } : Jvm.MethodName)) ∈ gb := gm_8 178 rfl rfl
theorem kw_1859 : (Jvm.Cond.code ({ cls := "JoinedTreesModel", name := "object", desc := "(III)I" } : Jvm.MethodName) prog_14_method_64_code (5 : Nat) (Option.some Jvm.ClassFile.FieldType.int)) ∈ gb := gm_8 179 rfl rfl
theorem kw_1860 : (Jvm.Cond.methodLink "JoinedTreesModel" (417 : Nat) ({ cls := "JoinedTreesModel", name := "keysOf", desc := "(II)V" } : Jvm.MethodName)) ∈ gb := gm_8 180 rfl rfl
theorem kw_1862 : (Jvm.Cond.instanceMethod ({ cls := "JoinedTreesModel", name := "keysOf", desc := "(II)V" } : Jvm.MethodName)) ∈ gb := gm_8 182 rfl rfl
theorem kw_1863 : (Jvm.Cond.code ({ cls := "JoinedTreesModel", name := "keysOf", desc := "(II)V" } : Jvm.MethodName) prog_14_method_63_code (7 : Nat) (Option.none : Option Jvm.ClassFile.FieldType)) ∈ gb := gm_8 183 rfl rfl
theorem kw_1864 : (Jvm.Cond.methodLink "JoinedTreesModel" (414 : Nat) ({ cls := "JoinedTreesModel", name := "compareKeys", desc := "(II)I" } : Jvm.MethodName)) ∈ gb := gm_8 184 rfl rfl
theorem kw_1866 : (Jvm.Cond.instanceMethod ({ cls := "JoinedTreesModel", name := "compareKeys", desc := "(II)I" } : Jvm.MethodName)) ∈ gb := gm_8 186 rfl rfl
theorem kw_1867 : (Jvm.Cond.code ({ cls := "JoinedTreesModel", name := "compareKeys", desc := "(II)I" } : Jvm.MethodName) prog_14_method_62_code (6 : Nat) (Option.some Jvm.ClassFile.FieldType.int)) ∈ gb := gm_8 187 rfl rfl
theorem kw_1868 : (Jvm.Cond.methodLink "JoinedTreesLaw" (176 : Nat) ({ cls := "JoinedTreesModel", name := "key", desc := "(IIII)I" } : Jvm.MethodName)) ∈ gb := gm_8 188 rfl rfl
theorem kw_1869 : (Jvm.Cond.instanceMethod ({ cls := "JoinedTreesModel", name := "key", desc := "(IIII)I" } : Jvm.MethodName)) ∈ gb := gm_8 189 rfl rfl
theorem kw_1870 : (Jvm.Cond.selects "JoinedTreesModel" ({ cls := "JoinedTreesModel", name := "key", desc := "(IIII)I" } : Jvm.MethodName) ({ cls := "JoinedTreesModel", name := "key", desc := "(IIII)I" } : Jvm.MethodName)) ∈ gb := gm_8 190 rfl rfl
theorem kw_1871 : (Jvm.Cond.code ({ cls := "JoinedTreesModel", name := "key", desc := "(IIII)I" } : Jvm.MethodName) prog_14_method_65_code (6 : Nat) (Option.some Jvm.ClassFile.FieldType.int)) ∈ gb := gm_8 191 rfl rfl
theorem kw_1872 : (Jvm.Cond.methodLink "JoinedTreesLaw" (179 : Nat) ({ cls := "JoinedTreesModel", name := "candidate", desc := "(IIIII)J" } : Jvm.MethodName)) ∈ gb := gm_8 192 rfl rfl
theorem kw_1873 : (Jvm.Cond.instanceMethod ({ cls := "JoinedTreesModel", name := "candidate", desc := "(IIIII)J" } : Jvm.MethodName)) ∈ gb := gm_8 193 rfl rfl
theorem kw_1874 : (Jvm.Cond.selects "JoinedTreesModel" ({ cls := "JoinedTreesModel", name := "candidate", desc := "(IIIII)J" } : Jvm.MethodName) ({ cls := "JoinedTreesModel", name := "candidate", desc := "(IIIII)J" } : Jvm.MethodName)) ∈ gb := gm_8 194 rfl rfl
theorem kw_1875 : (Jvm.Cond.code ({ cls := "JoinedTreesModel", name := "candidate", desc := "(IIIII)J" } : Jvm.MethodName) prog_14_method_66_code (9 : Nat) (Option.some Jvm.ClassFile.FieldType.long)) ∈ gb := gm_8 195 rfl rfl
theorem kw_1876 : (Jvm.Cond.methodLink "JoinedTreesModel" (420 : Nat) ({ cls := "JoinedTreesModel", name := "counter", desc := "(II)J" } : Jvm.MethodName)) ∈ gb := gm_8 196 rfl rfl
theorem kw_1878 : (Jvm.Cond.instanceMethod ({ cls := "JoinedTreesModel", name := "counter", desc := "(II)J" } : Jvm.MethodName)) ∈ gb := gm_8 198 rfl rfl
theorem kw_1879 : (Jvm.Cond.code ({ cls := "JoinedTreesModel", name := "counter", desc := "(II)J" } : Jvm.MethodName) prog_14_method_21_code (7 : Nat) (Option.some Jvm.ClassFile.FieldType.long)) ∈ gb := gm_8 199 rfl rfl
theorem kw_1880 : (Jvm.Cond.methodLink "JoinedTreesLaw" (182 : Nat) ({ cls := "JoinedTreesModel", name := "letter", desc := "(III)I" } : Jvm.MethodName)) ∈ gb := gm_8 200 rfl rfl
theorem kw_1881 : (Jvm.Cond.instanceMethod ({ cls := "JoinedTreesModel", name := "letter", desc := "(III)I" } : Jvm.MethodName)) ∈ gb := gm_8 201 rfl rfl
theorem kw_1882 : (Jvm.Cond.selects "JoinedTreesModel" ({ cls := "JoinedTreesModel", name := "letter", desc := "(III)I" } : Jvm.MethodName) ({ cls := "JoinedTreesModel", name := "letter", desc := "(III)I" } : Jvm.MethodName)) ∈ gb := gm_8 202 rfl rfl
theorem kw_1883 : (Jvm.Cond.code ({ cls := "JoinedTreesModel", name := "letter", desc := "(III)I" } : Jvm.MethodName) prog_14_method_67_code (5 : Nat) (Option.some Jvm.ClassFile.FieldType.int)) ∈ gb := gm_8 203 rfl rfl
theorem kw_1884 : (Jvm.Cond.methodLink "JoinedTreesLaw" (185 : Nat) ({ cls := "JoinedTreesModel", name := "element", desc := "(III)I" } : Jvm.MethodName)) ∈ gb := gm_8 204 rfl rfl
theorem kw_1885 : (Jvm.Cond.instanceMethod ({ cls := "JoinedTreesModel", name := "element", desc := "(III)I" } : Jvm.MethodName)) ∈ gb := gm_8 205 rfl rfl
theorem kw_1886 : (Jvm.Cond.selects "JoinedTreesModel" ({ cls := "JoinedTreesModel", name := "element", desc := "(III)I" } : Jvm.MethodName) ({ cls := "JoinedTreesModel", name := "element", desc := "(III)I" } : Jvm.MethodName)) ∈ gb := gm_8 206 rfl rfl
theorem kw_1887 : (Jvm.Cond.code ({ cls := "JoinedTreesModel", name := "element", desc := "(III)I" } : Jvm.MethodName) prog_14_method_69_code (6 : Nat) (Option.some Jvm.ClassFile.FieldType.int)) ∈ gb := gm_8 207 rfl rfl
theorem kw_1888 : (Jvm.Cond.methodLink "JoinedTreesModel" (424 : Nat) ({ cls := "JoinedTreesModel", name := "listKind", desc := "(II)I" } : Jvm.MethodName)) ∈ gb := gm_8 208 rfl rfl
theorem kw_1890 : (Jvm.Cond.instanceMethod ({ cls := "JoinedTreesModel", name := "listKind", desc := "(II)I" } : Jvm.MethodName)) ∈ gb := gm_8 210 rfl rfl
theorem kw_1891 : (Jvm.Cond.code ({ cls := "JoinedTreesModel", name := "listKind", desc := "(II)I" } : Jvm.MethodName) prog_14_method_68_code (4 : Nat) (Option.some Jvm.ClassFile.FieldType.int)) ∈ gb := gm_8 211 rfl rfl
theorem kw_1892 : (Jvm.Cond.methodLink "JoinedTreesLaw" (188 : Nat) ({ cls := "JoinedTreesModel", name := "index", desc := "(III)I" } : Jvm.MethodName)) ∈ gb := gm_8 212 rfl rfl
theorem kw_1893 : (Jvm.Cond.instanceMethod ({ cls := "JoinedTreesModel", name := "index", desc := "(III)I" } : Jvm.MethodName)) ∈ gb := gm_8 213 rfl rfl
theorem kw_1894 : (Jvm.Cond.selects "JoinedTreesModel" ({ cls := "JoinedTreesModel", name := "index", desc := "(III)I" } : Jvm.MethodName) ({ cls := "JoinedTreesModel", name := "index", desc := "(III)I" } : Jvm.MethodName)) ∈ gb := gm_8 214 rfl rfl
theorem kw_1895 : (Jvm.Cond.code ({ cls := "JoinedTreesModel", name := "index", desc := "(III)I" } : Jvm.MethodName) prog_14_method_70_code (7 : Nat) (Option.some Jvm.ClassFile.FieldType.int)) ∈ gb := gm_8 215 rfl rfl
theorem kw_1896 : (Jvm.Cond.methodLink "JoinedTreesLaw" (191 : Nat) ({ cls := "JoinedTreesModel", name := "find", desc := "(I)I" } : Jvm.MethodName)) ∈ gb := gm_8 216 rfl rfl
theorem kw_1897 : (Jvm.Cond.instanceMethod ({ cls := "JoinedTreesModel", name := "find", desc := "(I)I" } : Jvm.MethodName)) ∈ gb := gm_8 217 rfl rfl
theorem kw_1898 : (Jvm.Cond.selects "JoinedTreesModel" ({ cls := "JoinedTreesModel", name := "find", desc := "(I)I" } : Jvm.MethodName) ({ cls := "JoinedTreesModel", name := "find", desc := "(I)I" } : Jvm.MethodName)) ∈ gb := gm_8 218 rfl rfl
theorem kw_1899 : (Jvm.Cond.code ({ cls := "JoinedTreesModel", name := "find", desc := "(I)I" } : Jvm.MethodName) prog_14_method_73_code (10 : Nat) (Option.some Jvm.ClassFile.FieldType.int)) ∈ gb := gm_8 219 rfl rfl
theorem kw_1900 : (Jvm.Cond.methodLink "JoinedTreesModel" (430 : Nat) ({ cls := "JoinedTreesModel", name := "isPath", desc := "()Z" } : Jvm.MethodName)) ∈ gb := gm_8 220 rfl rfl
theorem kw_1902 : (Jvm.Cond.instanceMethod ({ cls := "JoinedTreesModel", name := "isPath", desc := "()Z" } : Jvm.MethodName)) ∈ gb := gm_8 222 rfl rfl
theorem kw_1903 : (Jvm.Cond.code ({ cls := "JoinedTreesModel", name := "isPath", desc := "()Z" } : Jvm.MethodName) prog_14_method_72_code (3 : Nat) (Option.some Jvm.ClassFile.FieldType.boolean)) ∈ gb := gm_8 223 rfl rfl
theorem kw_1904 : (Jvm.Cond.methodLink "JoinedTreesModel" (427 : Nat) ({ cls := "JoinedTreesModel", name := "isWord", desc := "(I)Z" } : Jvm.MethodName)) ∈ gb := gm_8 224 rfl rfl
theorem kw_1905 : (Jvm.Cond.static ({ cls := "JoinedTreesModel", name := "isWord", desc := "(I)Z" } : Jvm.MethodName)) ∈ gb := gm_8 225 rfl rfl
theorem kw_1906 : (Jvm.Cond.code ({ cls := "JoinedTreesModel", name := "isWord", desc := "(I)Z" } : Jvm.MethodName) prog_14_method_71_code (1 : Nat) (Option.some Jvm.ClassFile.FieldType.boolean)) ∈ gb := gm_8 226 rfl rfl
theorem kw_1907 : (Jvm.Cond.methodLink "JoinedTreesLaw" (194 : Nat) ({ cls := "JoinedTreesModel", name := "text", desc := "(II)I" } : Jvm.MethodName)) ∈ gb := gm_8 227 rfl rfl
theorem kw_1908 : (Jvm.Cond.instanceMethod ({ cls := "JoinedTreesModel", name := "text", desc := "(II)I" } : Jvm.MethodName)) ∈ gb := gm_8 228 rfl rfl
theorem kw_1909 : (Jvm.Cond.selects "JoinedTreesModel" ({ cls := "JoinedTreesModel", name := "text", desc := "(II)I" } : Jvm.MethodName) ({ cls := "JoinedTreesModel", name := "text", desc := "(II)I" } : Jvm.MethodName)) ∈ gb := gm_8 229 rfl rfl
theorem kw_1910 : (Jvm.Cond.code ({ cls := "JoinedTreesModel", name := "text", desc := "(II)I" } : Jvm.MethodName) prog_14_method_82_code (7 : Nat) (Option.some Jvm.ClassFile.FieldType.int)) ∈ gb := gm_8 230 rfl rfl
theorem kw_1911 : (Jvm.Cond.methodLink "JoinedTreesModel" (456 : Nat) ({ cls := "JoinedTreesModel", name := "begin", desc := "(III)V" } : Jvm.MethodName)) ∈ gb := gm_8 231 rfl rfl
theorem kw_1913 : (Jvm.Cond.instanceMethod ({ cls := "JoinedTreesModel", name := "begin", desc := "(III)V" } : Jvm.MethodName)) ∈ gb := gm_8 233 rfl rfl
theorem kw_1914 : (Jvm.Cond.code ({ cls := "JoinedTreesModel", name := "begin", desc := "(III)V" } : Jvm.MethodName) prog_14_method_80_code (9 : Nat) (Option.none : Option Jvm.ClassFile.FieldType)) ∈ gb := gm_8 234 rfl rfl
theorem kw_1915 : (Jvm.Cond.methodLink "JoinedTreesModel" (436 : Nat) ({ cls := "JoinedTreesModel", name := "write", desc := "(I)V" } : Jvm.MethodName)) ∈ gb := gm_8 235 rfl rfl
theorem kw_1917 : (Jvm.Cond.instanceMethod ({ cls := "JoinedTreesModel", name := "write", desc := "(I)V" } : Jvm.MethodName)) ∈ gb := gm_8 237 rfl rfl
theorem kw_1918 : (Jvm.Cond.code ({ cls := "JoinedTreesModel", name := "write", desc := "(I)V" } : Jvm.MethodName) prog_14_method_74_code (2 : Nat) (Option.none : Option Jvm.ClassFile.FieldType)) ∈ gb := gm_8 238 rfl rfl
theorem kw_1919 : (Jvm.Cond.methodLink "JoinedTreesModel" (450 : Nat) ({ cls := "JoinedTreesModel", name := "push", desc := "(I)V" } : Jvm.MethodName)) ∈ gb := gm_8 239 rfl rfl
theorem kw_1921 : (Jvm.Cond.instanceMethod ({ cls := "JoinedTreesModel", name := "push", desc := "(I)V" } : Jvm.MethodName)) ∈ gb := gm_9 1 rfl rfl
theorem kw_1922 : (Jvm.Cond.code ({ cls := "JoinedTreesModel", name := "push", desc := "(I)V" } : Jvm.MethodName) prog_14_method_81_code (2 : Nat) (Option.none : Option Jvm.ClassFile.FieldType)) ∈ gb := gm_9 2 rfl rfl
theorem kw_1923 : (Jvm.Cond.methodLink "JoinedTreesModel" (447 : Nat) ({ cls := "JoinedTreesModel", name := "escaped", desc := "(I)V" } : Jvm.MethodName)) ∈ gb := gm_9 3 rfl rfl
theorem kw_1925 : (Jvm.Cond.instanceMethod ({ cls := "JoinedTreesModel", name := "escaped", desc := "(I)V" } : Jvm.MethodName)) ∈ gb := gm_9 5 rfl rfl
theorem kw_1926 : (Jvm.Cond.code ({ cls := "JoinedTreesModel", name := "escaped", desc := "(I)V" } : Jvm.MethodName) prog_14_method_77_code (2 : Nat) (Option.none : Option Jvm.ClassFile.FieldType)) ∈ gb := gm_9 6 rfl rfl
theorem kw_1927 : (Jvm.Cond.methodLink "JoinedTreesModel" (441 : Nat) ({ cls := "JoinedTreesModel", name := "hexDigit", desc := "(I)I" } : Jvm.MethodName)) ∈ gb := gm_9 7 rfl rfl
theorem kw_1928 : (Jvm.Cond.static ({ cls := "JoinedTreesModel", name := "hexDigit", desc := "(I)I" } : Jvm.MethodName)) ∈ gb := gm_9 8 rfl rfl
theorem kw_1929 : (Jvm.Cond.code ({ cls := "JoinedTreesModel", name := "hexDigit", desc := "(I)I" } : Jvm.MethodName) prog_14_method_76_code (1 : Nat) (Option.some Jvm.ClassFile.FieldType.int)) ∈ gb := gm_9 9 rfl rfl
theorem kw_1930 : (Jvm.Cond.methodLink "JoinedTreesModel" (459 : Nat) ({ cls := "JoinedTreesModel", name := "name", desc := "(I)V" } : Jvm.MethodName)) ∈ gb := gm_9 10 rfl rfl
theorem kw_1932 : (Jvm.Cond.instanceMethod ({ cls := "JoinedTreesModel", name := "name", desc := "(I)V" } : Jvm.MethodName)) ∈ gb := gm_9 12 rfl rfl
theorem kw_1933 : (Jvm.Cond.code ({ cls := "JoinedTreesModel", name := "name", desc := "(I)V" } : Jvm.MethodName) prog_14_method_79_code (3 : Nat) (Option.none : Option Jvm.ClassFile.FieldType)) ∈ gb := gm_9 13 rfl rfl
theorem kw_1934 : (Jvm.Cond.methodLink "JoinedTreesModel" (462 : Nat) ({ cls := "JoinedTreesModel", name := "plain", desc := "(II)V" } : Jvm.MethodName)) ∈ gb := gm_9 14 rfl rfl
theorem kw_1936 : (Jvm.Cond.instanceMethod ({ cls := "JoinedTreesModel", name := "plain", desc := "(II)V" } : Jvm.MethodName)) ∈ gb := gm_9 16 rfl rfl
theorem kw_1937 : (Jvm.Cond.code ({ cls := "JoinedTreesModel", name := "plain", desc := "(II)V" } : Jvm.MethodName) prog_14_method_78_code (5 : Nat) (Option.none : Option Jvm.ClassFile.FieldType)) ∈ gb := gm_9 17 rfl rfl
theorem kw_1938 : (Jvm.Cond.methodLink "JoinedTreesModel" (444 : Nat) ({ cls := "JoinedTreesModel", name := "digits", desc := "(J)V" } : Jvm.MethodName)) ∈ gb := gm_9 18 rfl rfl
theorem kw_1940 : (Jvm.Cond.instanceMethod ({ cls := "JoinedTreesModel", name := "digits", desc := "(J)V" } : Jvm.MethodName)) ∈ gb := gm_9 20 rfl rfl
theorem kw_1941 : (Jvm.Cond.code ({ cls := "JoinedTreesModel", name := "digits", desc := "(J)V" } : Jvm.MethodName) prog_14_method_75_code (9 : Nat) (Option.none : Option Jvm.ClassFile.FieldType)) ∈ gb := gm_9 21 rfl rfl
theorem kw_1942 : (Jvm.Cond.constantLong "JoinedTreesModel" (439 : Nat) (-10 : Int64)) ∈ gb := gm_9 22 rfl rfl
theorem kw_1943 : (Jvm.Cond.methodLink "JoinedTreesLaw" (197 : Nat) ({ cls := "JoinedTreesModel", name := "save", desc := "(I)I" } : Jvm.MethodName)) ∈ gb := gm_9 23 rfl rfl
theorem kw_1944 : (Jvm.Cond.instanceMethod ({ cls := "JoinedTreesModel", name := "save", desc := "(I)I" } : Jvm.MethodName)) ∈ gb := gm_9 24 rfl rfl
theorem kw_1945 : (Jvm.Cond.selects "JoinedTreesModel" ({ cls := "JoinedTreesModel", name := "save", desc := "(I)I" } : Jvm.MethodName) ({ cls := "JoinedTreesModel", name := "save", desc := "(I)I" } : Jvm.MethodName)) ∈ gb := gm_9 25 rfl rfl
theorem kw_1946 : (Jvm.Cond.code ({ cls := "JoinedTreesModel", name := "save", desc := "(I)I" } : Jvm.MethodName) prog_14_method_88_code (6 : Nat) (Option.some Jvm.ClassFile.FieldType.int)) ∈ gb := gm_9 26 rfl rfl
theorem kw_1947 : (Jvm.Cond.methodLink "JoinedTreesModel" (474 : Nat) ({ cls := "JoinedTreesModel", name := "group", desc := "(J)V" } : Jvm.MethodName)) ∈ gb := gm_9 27 rfl rfl
theorem kw_1949 : (Jvm.Cond.instanceMethod ({ cls := "JoinedTreesModel", name := "group", desc := "(J)V" } : Jvm.MethodName)) ∈ gb := gm_9 29 rfl rfl
theorem kw_1950 : (Jvm.Cond.code ({ cls := "JoinedTreesModel", name := "group", desc := "(J)V" } : Jvm.MethodName) prog_14_method_83_code (5 : Nat) (Option.none : Option Jvm.ClassFile.FieldType)) ∈ gb := gm_9 30 rfl rfl
theorem kw_1951 : (Jvm.Cond.constantLong "JoinedTreesModel" (468 : Nat) (127 : Int64)) ∈ gb := gm_9 31 rfl rfl
theorem kw_1952 : (Jvm.Cond.methodLink "JoinedTreesModel" (490 : Nat) ({ cls := "JoinedTreesModel", name := "saveChange", desc := "(I)V" } : Jvm.MethodName)) ∈ gb := gm_9 32 rfl rfl
theorem kw_1954 : (Jvm.Cond.instanceMethod ({ cls := "JoinedTreesModel", name := "saveChange", desc := "(I)V" } : Jvm.MethodName)) ∈ gb := gm_9 34 rfl rfl
theorem kw_1955 : (Jvm.Cond.code ({ cls := "JoinedTreesModel", name := "saveChange", desc := "(I)V" } : Jvm.MethodName) prog_14_method_86_code (6 : Nat) (Option.none : Option Jvm.ClassFile.FieldType)) ∈ gb := gm_9 35 rfl rfl
theorem kw_1956 : (Jvm.Cond.constant "JoinedTreesModel" (482 : Nat) (2147483647 : Int32)) ∈ gb := gm_9 36 rfl rfl
theorem kw_1957 : (Jvm.Cond.methodLink "JoinedTreesModel" (483 : Nat) ({ cls := "java/lang/Math", name := "min", desc := "(II)I" } : Jvm.MethodName)) ∈ gb := gm_9 37 rfl rfl
theorem kw_1958 : (Jvm.Cond.static ({ cls := "java/lang/Math", name := "min", desc := "(II)I" } : Jvm.MethodName)) ∈ gb := gm_9 38 rfl rfl
theorem kw_1959 : (Jvm.Cond.code ({ cls := "java/lang/Math", name := "min", desc := "(II)I" } : Jvm.MethodName) prog_21_method_69_code (2 : Nat) (Option.some Jvm.ClassFile.FieldType.int)) ∈ gb := gm_9 39 rfl rfl
theorem kw_1960 : (Jvm.Cond.methodLink "JoinedTreesModel" (486 : Nat) ({ cls := "JoinedTreesModel", name := "saveOp", desc := "(I)V" } : Jvm.MethodName)) ∈ gb := gm_9 40 rfl rfl
theorem kw_1962 : (Jvm.Cond.instanceMethod ({ cls := "JoinedTreesModel", name := "saveOp", desc := "(I)V" } : Jvm.MethodName)) ∈ gb := gm_9 42 rfl rfl
theorem kw_1963 : (Jvm.Cond.code ({ cls := "JoinedTreesModel", name := "saveOp", desc := "(I)V" } : Jvm.MethodName) prog_14_method_85_code (7 : Nat) (Option.none : Option Jvm.ClassFile.FieldType)) ∈ gb := gm_9 43 rfl rfl
theorem kw_1964 : (Jvm.Cond.methodLink "JoinedTreesModel" (477 : Nat) ({ cls := "JoinedTreesModel", name := "long2", desc := "(J)V" } : Jvm.MethodName)) ∈ gb := gm_9 44 rfl rfl
theorem kw_1966 : (Jvm.Cond.instanceMethod ({ cls := "JoinedTreesModel", name := "long2", desc := "(J)V" } : Jvm.MethodName)) ∈ gb := gm_9 46 rfl rfl
theorem kw_1967 : (Jvm.Cond.code ({ cls := "JoinedTreesModel", name := "long2", desc := "(J)V" } : Jvm.MethodName) prog_14_method_84_code (3 : Nat) (Option.none : Option Jvm.ClassFile.FieldType)) ∈ gb := gm_9 47 rfl rfl
theorem kw_1968 : (Jvm.Cond.constantLong "JoinedTreesModel" (470 : Nat) (-2 : Int64)) ∈ gb := gm_9 48 rfl rfl
theorem kw_1969 : (Jvm.Cond.constantLong "JoinedTreesModel" (472 : Nat) (2 : Int64)) ∈ gb := gm_9 49 rfl rfl
theorem kw_1970 : (Jvm.Cond.methodLink "JoinedTreesModel" (493 : Nat) ({ cls := "JoinedTreesModel", name := "crc", desc := "(I)I" } : Jvm.MethodName)) ∈ gb := gm_9 50 rfl rfl
theorem kw_1972 : (Jvm.Cond.instanceMethod ({ cls := "JoinedTreesModel", name := "crc", desc := "(I)I" } : Jvm.MethodName)) ∈ gb := gm_9 52 rfl rfl
theorem kw_1973 : (Jvm.Cond.code ({ cls := "JoinedTreesModel", name := "crc", desc := "(I)I" } : Jvm.MethodName) prog_14_method_87_code (5 : Nat) (Option.some Jvm.ClassFile.FieldType.int)) ∈ gb := gm_9 53 rfl rfl
theorem kw_1974 : (Jvm.Cond.constant "JoinedTreesModel" (489 : Nat) (-306674912 : Int32)) ∈ gb := gm_9 54 rfl rfl
theorem kw_1975 : (Jvm.Cond.methodLink "JoinedTreesLaw" (200 : Nat) ({ cls := "JoinedTreesModel", name := "load", desc := "(I)I" } : Jvm.MethodName)) ∈ gb := gm_9 55 rfl rfl
theorem kw_1976 : (Jvm.Cond.instanceMethod ({ cls := "JoinedTreesModel", name := "load", desc := "(I)I" } : Jvm.MethodName)) ∈ gb := gm_9 56 rfl rfl
theorem kw_1977 : (Jvm.Cond.selects "JoinedTreesModel" ({ cls := "JoinedTreesModel", name := "load", desc := "(I)I" } : Jvm.MethodName) ({ cls := "JoinedTreesModel", name := "load", desc := "(I)I" } : Jvm.MethodName)) ∈ gb := gm_9 57 rfl rfl
theorem kw_1978 : (Jvm.Cond.code ({ cls := "JoinedTreesModel", name := "load", desc := "(I)I" } : Jvm.MethodName) prog_14_method_92_code (4 : Nat) (Option.some Jvm.ClassFile.FieldType.int)) ∈ gb := gm_9 58 rfl rfl
theorem kw_1979 : (Jvm.Cond.methodLink "JoinedTreesModel" (508 : Nat) ({ cls := "JoinedTreesModel", name := "isSaved", desc := "()Z" } : Jvm.MethodName)) ∈ gb := gm_9 59 rfl rfl
theorem kw_1981 : (Jvm.Cond.instanceMethod ({ cls := "JoinedTreesModel", name := "isSaved", desc := "()Z" } : Jvm.MethodName)) ∈ gb := gm_9 61 rfl rfl
theorem kw_1982 : (Jvm.Cond.code ({ cls := "JoinedTreesModel", name := "isSaved", desc := "()Z" } : Jvm.MethodName) prog_14_method_91_code (9 : Nat) (Option.some Jvm.ClassFile.FieldType.boolean)) ∈ gb := gm_9 62 rfl rfl
theorem kw_1983 : (Jvm.Cond.methodLink "JoinedTreesModel" (502 : Nat) ({ cls := "JoinedTreesModel", name := "grouped", desc := "()I" } : Jvm.MethodName)) ∈ gb := gm_9 63 rfl rfl
theorem kw_1985 : (Jvm.Cond.instanceMethod ({ cls := "JoinedTreesModel", name := "grouped", desc := "()I" } : Jvm.MethodName)) ∈ gb := gm_9 65 rfl rfl
theorem kw_1986 : (Jvm.Cond.code ({ cls := "JoinedTreesModel", name := "grouped", desc := "()I" } : Jvm.MethodName) prog_14_method_89_code (4 : Nat) (Option.some Jvm.ClassFile.FieldType.int)) ∈ gb := gm_9 66 rfl rfl
theorem kw_1987 : (Jvm.Cond.methodLink "JoinedTreesModel" (505 : Nat) ({ cls := "JoinedTreesModel", name := "stands", desc := "(II)Z" } : Jvm.MethodName)) ∈ gb := gm_9 67 rfl rfl
theorem kw_1989 : (Jvm.Cond.instanceMethod ({ cls := "JoinedTreesModel", name := "stands", desc := "(II)Z" } : Jvm.MethodName)) ∈ gb := gm_9 69 rfl rfl
theorem kw_1990 : (Jvm.Cond.code ({ cls := "JoinedTreesModel", name := "stands", desc := "(II)Z" } : Jvm.MethodName) prog_14_method_90_code (4 : Nat) (Option.some Jvm.ClassFile.FieldType.boolean)) ∈ gb := gm_9 70 rfl rfl
theorem kw_1991 : (Jvm.Cond.methodLink "JoinedTreesLaw" (204 : Nat) ({ cls := "JoinedTreesModel", name := "harm", desc := "(II)V" } : Jvm.MethodName)) ∈ gb := gm_9 71 rfl rfl
theorem kw_1992 : (Jvm.Cond.instanceMethod ({ cls := "JoinedTreesModel", name := "harm", desc := "(II)V" } : Jvm.MethodName)) ∈ gb := gm_9 72 rfl rfl
theorem kw_1993 : (Jvm.Cond.selects "JoinedTreesModel" ({ cls := "JoinedTreesModel", name := "harm", desc := "(II)V" } : Jvm.MethodName) ({ cls := "JoinedTreesModel", name := "harm", desc := "(II)V" } : Jvm.MethodName)) ∈ gb := gm_9 73 rfl rfl
theorem kw_1994 : (Jvm.Cond.code ({ cls := "JoinedTreesModel", name := "harm", desc := "(II)V" } : Jvm.MethodName) prog_14_method_93_code (3 : Nat) (Option.none : Option Jvm.ClassFile.FieldType)) ∈ gb := gm_9 74 rfl rfl
theorem kw_1995 : (Jvm.Cond.methodLink "JoinedTreesLaw" (207 : Nat) ({ cls := "JoinedTreesModel", name := "out", desc := "(I)J" } : Jvm.MethodName)) ∈ gb := gm_9 75 rfl rfl
theorem kw_1996 : (Jvm.Cond.instanceMethod ({ cls := "JoinedTreesModel", name := "out", desc := "(I)J" } : Jvm.MethodName)) ∈ gb := gm_9 76 rfl rfl
theorem kw_1997 : (Jvm.Cond.selects "JoinedTreesModel" ({ cls := "JoinedTreesModel", name := "out", desc := "(I)J" } : Jvm.MethodName) ({ cls := "JoinedTreesModel", name := "out", desc := "(I)J" } : Jvm.MethodName)) ∈ gb := gm_9 77 rfl rfl
theorem kw_1998 : (Jvm.Cond.code ({ cls := "JoinedTreesModel", name := "out", desc := "(I)J" } : Jvm.MethodName) prog_14_method_94_code (5 : Nat) (Option.some Jvm.ClassFile.FieldType.long)) ∈ gb := gm_9 78 rfl rfl
theorem kw_1999 : (Jvm.Cond.methodLink "JoinedTreesLaw" (210 : Nat) ({ cls := "JoinedTreesModel", name := "count", desc := "(II)I" } : Jvm.MethodName)) ∈ gb := gm_9 79 rfl rfl
theorem kw_2000 : (Jvm.Cond.instanceMethod ({ cls := "JoinedTreesModel", name := "count", desc := "(II)I" } : Jvm.MethodName)) ∈ gb := gm_9 80 rfl rfl
theorem kw_2001 : (Jvm.Cond.selects "JoinedTreesModel" ({ cls := "JoinedTreesModel", name := "count", desc := "(II)I" } : Jvm.MethodName) ({ cls := "JoinedTreesModel", name := "count", desc := "(II)I" } : Jvm.MethodName)) ∈ gb := gm_9 81 rfl rfl
theorem kw_2002 : (Jvm.Cond.code ({ cls := "JoinedTreesModel", name := "count", desc := "(II)I" } : Jvm.MethodName) prog_14_method_95_code (5 : Nat) (Option.some Jvm.ClassFile.FieldType.int)) ∈ gb := gm_9 82 rfl rfl
theorem kw_2003 : (Jvm.Cond.methodLink "JoinedTreesLaw" (214 : Nat) ({ cls := "JoinedTreesModel", name := "told", desc := "(I)I" } : Jvm.MethodName)) ∈ gb := gm_9 83 rfl rfl
theorem kw_2004 : (Jvm.Cond.instanceMethod ({ cls := "JoinedTreesModel", name := "told", desc := "(I)I" } : Jvm.MethodName)) ∈ gb := gm_9 84 rfl rfl
theorem kw_2005 : (Jvm.Cond.selects "JoinedTreesModel" ({ cls := "JoinedTreesModel", name := "told", desc := "(I)I" } : Jvm.MethodName) ({ cls := "JoinedTreesModel", name := "told", desc := "(I)I" } : Jvm.MethodName)) ∈ gb := gm_9 85 rfl rfl
theorem kw_2006 : (Jvm.Cond.code ({ cls := "JoinedTreesModel", name := "told", desc := "(I)I" } : Jvm.MethodName) prog_14_method_96_code (2 : Nat) (Option.some Jvm.ClassFile.FieldType.int)) ∈ gb := gm_9 86 rfl rfl
theorem kw_2007 : (Jvm.Cond.constantLong "JoinedTreesLaw" (128 : Nat) (4294967295 : Int64)) ∈ gb := gm_9 87 rfl rfl
theorem kw_2008 : (Jvm.Cond.sameMethod "java/lang/Throwable" "java/lang/Throwable" "fillInStackTrace" "(I)Ljava/lang/Throwable;") ∈ gb := gm_9 88 rfl rfl
theorem kw_2009 : (Jvm.Cond.fieldLink "java/lang/String" (9 : Nat) "java/lang/String" "value" "[B") ∈ gb := gm_9 89 rfl rfl
theorem kw_2010 : (Jvm.Cond.fieldLink "java/lang/String" (15 : Nat) "java/lang/String" "coder" "B") ∈ gb := gm_9 90 rfl rfl
theorem kp_0 : Cond.selects "JoinedTrees" ⟨"JoinedTrees", "argumentBytes", "()I"⟩ ⟨"JoinedTrees", "argumentBytes", "()I"⟩ ∈ gb := gs_1 (⟨"JoinedTrees", "argumentBytes", "()I"⟩, _) 0 rfl
theorem kp_1 : Cond.selects "java/lang/Throwable" ⟨"java/lang/Throwable", "fillInStackTrace", "(I)Ljava/lang/Throwable;"⟩ ⟨"java/lang/Throwable", "fillInStackTrace", "(I)Ljava/lang/Throwable;"⟩ ∈ gb := gs_1 (⟨"java/lang/Throwable", "fillInStackTrace", "(I)Ljava/lang/Throwable;"⟩, _) 1 rfl
theorem kp_2 : Cond.selects "JoinedTrees" ⟨"JoinedTrees", "takeArguments", "()I"⟩ ⟨"JoinedTrees", "takeArguments", "()I"⟩ ∈ gb := gs_1 (⟨"JoinedTrees", "takeArguments", "()I"⟩, _) 2 rfl
theorem kp_3 : Cond.selects "JoinedTrees" ⟨"JoinedTrees", "shown", "(I)LJoinedTrees$Replica;"⟩ ⟨"JoinedTrees", "shown", "(I)LJoinedTrees$Replica;"⟩ ∈ gb := gs_1 (⟨"JoinedTrees", "shown", "(I)LJoinedTrees$Replica;"⟩, _) 3 rfl
theorem kp_4 : Cond.selects "JoinedTrees" ⟨"JoinedTrees", "needValue", "(III)V"⟩ ⟨"JoinedTrees", "needValue", "(III)V"⟩ ∈ gb := gs_1 (⟨"JoinedTrees", "needValue", "(III)V"⟩, _) 4 rfl
theorem kp_5 : Cond.selects "JoinedTrees" ⟨"JoinedTrees", "needKey", "()V"⟩ ⟨"JoinedTrees", "needKey", "()V"⟩ ∈ gb := gs_1 (⟨"JoinedTrees", "needKey", "()V"⟩, _) 5 rfl
theorem kp_6 : Cond.selects "JoinedTrees" ⟨"JoinedTrees", "mapAt", "(I)LJoinedTrees$Op;"⟩ ⟨"JoinedTrees", "mapAt", "(I)LJoinedTrees$Op;"⟩ ∈ gb := gs_1 (⟨"JoinedTrees", "mapAt", "(I)LJoinedTrees$Op;"⟩, _) 6 rfl
theorem kp_7 : Cond.selects "JoinedTrees" ⟨"JoinedTrees", "objectAt", "(I)LJoinedTrees$Op;"⟩ ⟨"JoinedTrees", "objectAt", "(I)LJoinedTrees$Op;"⟩ ∈ gb := gs_1 (⟨"JoinedTrees", "objectAt", "(I)LJoinedTrees$Op;"⟩, _) 7 rfl
theorem kp_8 : Cond.selects "JoinedTrees" ⟨"JoinedTrees", "needAll", "(LJoinedTrees$Replica;)V"⟩ ⟨"JoinedTrees", "needAll", "(LJoinedTrees$Replica;)V"⟩ ∈ gb := gs_1 (⟨"JoinedTrees", "needAll", "(LJoinedTrees$Replica;)V"⟩, _) 8 rfl
theorem kp_9 : Cond.selects "JoinedTrees" ⟨"JoinedTrees", "needRoom", "(II)V"⟩ ⟨"JoinedTrees", "needRoom", "(II)V"⟩ ∈ gb := gs_1 (⟨"JoinedTrees", "needRoom", "(II)V"⟩, _) 9 rfl
theorem kp_10 : Cond.selects "JoinedTrees" ⟨"JoinedTrees", "writeAtKey", "(LJoinedTrees$Replica;LJoinedTrees$Op;LJoinedTrees$Row;IIIJ)LJoinedTrees$Op;"⟩ ⟨"JoinedTrees", "writeAtKey", "(LJoinedTrees$Replica;LJoinedTrees$Op;LJoinedTrees$Row;IIIJ)LJoinedTrees$Op;"⟩ ∈ gb := gs_1 (⟨"JoinedTrees", "writeAtKey", "(LJoinedTrees$Replica;LJoinedTrees$Op;LJoinedTrees$Row;IIIJ)LJoinedTrees$Op;"⟩, _) 10 rfl
theorem kp_11 : Cond.selects "JoinedTrees" ⟨"JoinedTrees", "writeOn", "(LJoinedTrees$Replica;LJoinedTrees$Spot;IJ)LJoinedTrees$Op;"⟩ ⟨"JoinedTrees", "writeOn", "(LJoinedTrees$Replica;LJoinedTrees$Spot;IJ)LJoinedTrees$Op;"⟩ ∈ gb := gs_1 (⟨"JoinedTrees", "writeOn", "(LJoinedTrees$Replica;LJoinedTrees$Spot;IJ)LJoinedTrees$Op;"⟩, _) 11 rfl
theorem kp_12 : Cond.selects "JoinedTrees" ⟨"JoinedTrees", "giveString", "(LJoinedTrees$Op;LJoinedTrees$Row;)V"⟩ ⟨"JoinedTrees", "giveString", "(LJoinedTrees$Op;LJoinedTrees$Row;)V"⟩ ∈ gb := gs_1 (⟨"JoinedTrees", "giveString", "(LJoinedTrees$Op;LJoinedTrees$Row;)V"⟩, _) 12 rfl
theorem kp_13 : Cond.selects "JoinedTrees" ⟨"JoinedTrees", "listAt", "(I)LJoinedTrees$Op;"⟩ ⟨"JoinedTrees", "listAt", "(I)LJoinedTrees$Op;"⟩ ∈ gb := gs_1 (⟨"JoinedTrees", "listAt", "(I)LJoinedTrees$Op;"⟩, _) 13 rfl
theorem kp_14 : Cond.selects "JoinedTrees" ⟨"JoinedTrees", "needSpot", "(LJoinedTrees$Spot;)V"⟩ ⟨"JoinedTrees", "needSpot", "(LJoinedTrees$Spot;)V"⟩ ∈ gb := gs_1 (⟨"JoinedTrees", "needSpot", "(LJoinedTrees$Spot;)V"⟩, _) 14 rfl
theorem kp_15 : Cond.selects "JoinedTrees" ⟨"JoinedTrees", "elementBefore", "(LJoinedTrees$Op;I)LJoinedTrees$Op;"⟩ ⟨"JoinedTrees", "elementBefore", "(LJoinedTrees$Op;I)LJoinedTrees$Op;"⟩ ∈ gb := gs_1 (⟨"JoinedTrees", "elementBefore", "(LJoinedTrees$Op;I)LJoinedTrees$Op;"⟩, _) 15 rfl
theorem kp_16 : Cond.selects "JoinedTrees" ⟨"JoinedTrees", "writeBehind", "(LJoinedTrees$Replica;LJoinedTrees$Op;LJoinedTrees$Op;IJ)LJoinedTrees$Op;"⟩ ⟨"JoinedTrees", "writeBehind", "(LJoinedTrees$Replica;LJoinedTrees$Op;LJoinedTrees$Op;IJ)LJoinedTrees$Op;"⟩ ∈ gb := gs_2 (⟨"JoinedTrees", "writeBehind", "(LJoinedTrees$Replica;LJoinedTrees$Op;LJoinedTrees$Op;IJ)LJoinedTrees$Op;"⟩, _) 0 rfl
theorem kp_17 : Cond.selects "JoinedTrees" ⟨"JoinedTrees", "eraseRun", "(LJoinedTrees$Replica;LJoinedTrees$Spot;I)V"⟩ ⟨"JoinedTrees", "eraseRun", "(LJoinedTrees$Replica;LJoinedTrees$Spot;I)V"⟩ ∈ gb := gs_2 (⟨"JoinedTrees", "eraseRun", "(LJoinedTrees$Replica;LJoinedTrees$Spot;I)V"⟩, _) 1 rfl
theorem kp_18 : Cond.selects "JoinedTrees" ⟨"JoinedTrees", "insertRun", "(LJoinedTrees$Replica;LJoinedTrees$Op;LJoinedTrees$Op;)V"⟩ ⟨"JoinedTrees", "insertRun", "(LJoinedTrees$Replica;LJoinedTrees$Op;LJoinedTrees$Op;)V"⟩ ∈ gb := gs_2 (⟨"JoinedTrees", "insertRun", "(LJoinedTrees$Replica;LJoinedTrees$Op;LJoinedTrees$Op;)V"⟩, _) 2 rfl
theorem kp_19 : Cond.selects "JoinedTrees" ⟨"JoinedTrees", "needPlace", "(II)V"⟩ ⟨"JoinedTrees", "needPlace", "(II)V"⟩ ∈ gb := gs_2 (⟨"JoinedTrees", "needPlace", "(II)V"⟩, _) 3 rfl
theorem kp_20 : Cond.selects "JoinedTrees" ⟨"JoinedTrees", "placeAt", "(II)LJoinedTrees$Spot;"⟩ ⟨"JoinedTrees", "placeAt", "(II)LJoinedTrees$Spot;"⟩ ∈ gb := gs_2 (⟨"JoinedTrees", "placeAt", "(II)LJoinedTrees$Spot;"⟩, _) 4 rfl
theorem kp_21 : Cond.selects "JoinedTrees" ⟨"JoinedTrees", "writeValues", "(LJoinedTrees$Replica;LJoinedTrees$Op;)I"⟩ ⟨"JoinedTrees", "writeValues", "(LJoinedTrees$Replica;LJoinedTrees$Op;)I"⟩ ∈ gb := gs_2 (⟨"JoinedTrees", "writeValues", "(LJoinedTrees$Replica;LJoinedTrees$Op;)I"⟩, _) 5 rfl
theorem kp_22 : Cond.selects "JoinedTrees" ⟨"JoinedTrees", "needNoneOpen", "(LJoinedTrees$Replica;)V"⟩ ⟨"JoinedTrees", "needNoneOpen", "(LJoinedTrees$Replica;)V"⟩ ∈ gb := gs_2 (⟨"JoinedTrees", "needNoneOpen", "(LJoinedTrees$Replica;)V"⟩, _) 6 rfl
theorem kp_23 : Cond.selects "JoinedTrees" ⟨"JoinedTrees", "isPath", "()Z"⟩ ⟨"JoinedTrees", "isPath", "()Z"⟩ ∈ gb := gs_2 (⟨"JoinedTrees", "isPath", "()Z"⟩, _) 7 rfl
theorem kp_24 : Cond.selects "JoinedTrees" ⟨"JoinedTrees", "stepEnd", "(I)I"⟩ ⟨"JoinedTrees", "stepEnd", "(I)I"⟩ ∈ gb := gs_2 (⟨"JoinedTrees", "stepEnd", "(I)I"⟩, _) 8 rfl
theorem kp_25 : Cond.selects "JoinedTrees" ⟨"JoinedTrees", "keyEnd", "(I)I"⟩ ⟨"JoinedTrees", "keyEnd", "(I)I"⟩ ∈ gb := gs_2 (⟨"JoinedTrees", "keyEnd", "(I)I"⟩, _) 9 rfl
theorem kp_26 : Cond.selects "JoinedTrees" ⟨"JoinedTrees", "indexEnd", "(I)I"⟩ ⟨"JoinedTrees", "indexEnd", "(I)I"⟩ ∈ gb := gs_2 (⟨"JoinedTrees", "indexEnd", "(I)I"⟩, _) 10 rfl
theorem kp_27 : Cond.selects "JoinedTrees" ⟨"JoinedTrees", "elementOf", "(LJoinedTrees$Op;II)LJoinedTrees$Op;"⟩ ⟨"JoinedTrees", "elementOf", "(LJoinedTrees$Op;II)LJoinedTrees$Op;"⟩ ∈ gb := gs_2 (⟨"JoinedTrees", "elementOf", "(LJoinedTrees$Op;II)LJoinedTrees$Op;"⟩, _) 11 rfl
theorem kp_28 : Cond.selects "JoinedTrees" ⟨"JoinedTrees", "keyOf", "(LJoinedTrees$Op;II)LJoinedTrees$Op;"⟩ ⟨"JoinedTrees", "keyOf", "(LJoinedTrees$Op;II)LJoinedTrees$Op;"⟩ ∈ gb := gs_2 (⟨"JoinedTrees", "keyOf", "(LJoinedTrees$Op;II)LJoinedTrees$Op;"⟩, _) 12 rfl
theorem kp_29 : Cond.selects "JoinedTreesModel" ⟨"JoinedTreesModel", "no", "(I)I"⟩ ⟨"JoinedTreesModel", "no", "(I)I"⟩ ∈ gb := gs_2 (⟨"JoinedTreesModel", "no", "(I)I"⟩, _) 13 rfl
theorem kp_30 : Cond.selects "JoinedTreesModel" ⟨"JoinedTreesModel", "taken", "()I"⟩ ⟨"JoinedTreesModel", "taken", "()I"⟩ ∈ gb := gs_2 (⟨"JoinedTreesModel", "taken", "()I"⟩, _) 14 rfl
theorem kp_31 : Cond.selects "JoinedTreesModel" ⟨"JoinedTreesModel", "kindOf", "(II)I"⟩ ⟨"JoinedTreesModel", "kindOf", "(II)I"⟩ ∈ gb := gs_2 (⟨"JoinedTreesModel", "kindOf", "(II)I"⟩, _) 15 rfl
theorem kp_32 : Cond.selects "JoinedTreesModel" ⟨"JoinedTreesModel", "maker", "(II)I"⟩ ⟨"JoinedTreesModel", "maker", "(II)I"⟩ ∈ gb := gs_3 (⟨"JoinedTreesModel", "maker", "(II)I"⟩, _) 0 rfl
theorem kp_33 : Cond.selects "JoinedTreesModel" ⟨"JoinedTreesModel", "in", "(II)Z"⟩ ⟨"JoinedTreesModel", "in", "(II)Z"⟩ ∈ gb := gs_3 (⟨"JoinedTreesModel", "in", "(II)Z"⟩, _) 1 rfl
theorem kp_34 : Cond.selects "JoinedTreesModel" ⟨"JoinedTreesModel", "full", "(II)Z"⟩ ⟨"JoinedTreesModel", "full", "(II)Z"⟩ ∈ gb := gs_3 (⟨"JoinedTreesModel", "full", "(II)Z"⟩, _) 2 rfl
theorem kp_35 : Cond.selects "JoinedTreesModel" ⟨"JoinedTreesModel", "setKey", "(II[BIIIJ[BII)I"⟩ ⟨"JoinedTreesModel", "setKey", "(II[BIIIJ[BII)I"⟩ ∈ gb := gs_3 (⟨"JoinedTreesModel", "setKey", "(II[BIIIJ[BII)I"⟩, _) 3 rfl
theorem kp_36 : Cond.selects "JoinedTreesModel" ⟨"JoinedTreesModel", "keyCandidates", "(II[BII)V"⟩ ⟨"JoinedTreesModel", "keyCandidates", "(II[BII)V"⟩ ∈ gb := gs_3 (⟨"JoinedTreesModel", "keyCandidates", "(II[BII)V"⟩, _) 4 rfl
theorem kp_37 : Cond.selects "JoinedTreesModel" ⟨"JoinedTreesModel", "hide", "(I)V"⟩ ⟨"JoinedTreesModel", "hide", "(I)V"⟩ ∈ gb := gs_3 (⟨"JoinedTreesModel", "hide", "(I)V"⟩, _) 5 rfl
theorem kp_38 : Cond.selects "JoinedTreesModel" ⟨"JoinedTreesModel", "visible", "(II)Z"⟩ ⟨"JoinedTreesModel", "visible", "(II)Z"⟩ ∈ gb := gs_3 (⟨"JoinedTreesModel", "visible", "(II)Z"⟩, _) 6 rfl
theorem kp_39 : Cond.selects "JoinedTreesModel" ⟨"JoinedTreesModel", "sameKey", "(I[BII)Z"⟩ ⟨"JoinedTreesModel", "sameKey", "(I[BII)Z"⟩ ∈ gb := gs_3 (⟨"JoinedTreesModel", "sameKey", "(I[BII)Z"⟩, _) 7 rfl
theorem kp_40 : Cond.selects "JoinedTreesModel" ⟨"JoinedTreesModel", "make", "(IIIJ)I"⟩ ⟨"JoinedTreesModel", "make", "(IIIJ)I"⟩ ∈ gb := gs_3 (⟨"JoinedTreesModel", "make", "(IIIJ)I"⟩, _) 8 rfl
theorem kp_41 : Cond.selects "JoinedTreesModel" ⟨"JoinedTreesModel", "greatest", "(I)I"⟩ ⟨"JoinedTreesModel", "greatest", "(I)I"⟩ ∈ gb := gs_3 (⟨"JoinedTreesModel", "greatest", "(I)I"⟩, _) 9 rfl
theorem kp_42 : Cond.selects "JoinedTreesModel" ⟨"JoinedTreesModel", "owns", "(II)Z"⟩ ⟨"JoinedTreesModel", "owns", "(II)Z"⟩ ∈ gb := gs_3 (⟨"JoinedTreesModel", "owns", "(II)Z"⟩, _) 10 rfl
theorem kp_43 : Cond.selects "JoinedTreesModel" ⟨"JoinedTreesModel", "follows", "(IZ)V"⟩ ⟨"JoinedTreesModel", "follows", "(IZ)V"⟩ ∈ gb := gs_3 (⟨"JoinedTreesModel", "follows", "(IZ)V"⟩, _) 11 rfl
theorem kp_44 : Cond.selects "JoinedTreesModel" ⟨"JoinedTreesModel", "keep", "([BII)I"⟩ ⟨"JoinedTreesModel", "keep", "([BII)I"⟩ ∈ gb := gs_3 (⟨"JoinedTreesModel", "keep", "([BII)I"⟩, _) 12 rfl
theorem kp_45 : Cond.selects "JoinedTreesModel" ⟨"JoinedTreesModel", "value", "(II[BII)V"⟩ ⟨"JoinedTreesModel", "value", "(II[BII)V"⟩ ∈ gb := gs_3 (⟨"JoinedTreesModel", "value", "(II[BII)V"⟩, _) 13 rfl
theorem kp_46 : Cond.selects "JoinedTreesModel" ⟨"JoinedTreesModel", "at", "(III)I"⟩ ⟨"JoinedTreesModel", "at", "(III)I"⟩ ∈ gb := gs_3 (⟨"JoinedTreesModel", "at", "(III)I"⟩, _) 14 rfl
theorem kp_47 : Cond.selects "JoinedTreesModel" ⟨"JoinedTreesModel", "list", "(II)V"⟩ ⟨"JoinedTreesModel", "list", "(II)V"⟩ ∈ gb := gs_3 (⟨"JoinedTreesModel", "list", "(II)V"⟩, _) 15 rfl
theorem kp_48 : Cond.selects "JoinedTreesModel" ⟨"JoinedTreesModel", "mark", "(II)V"⟩ ⟨"JoinedTreesModel", "mark", "(II)V"⟩ ∈ gb := gs_4 (⟨"JoinedTreesModel", "mark", "(II)V"⟩, _) 0 rfl
theorem kp_49 : Cond.selects "JoinedTreesModel" ⟨"JoinedTreesModel", "elementCandidates", "(III)V"⟩ ⟨"JoinedTreesModel", "elementCandidates", "(III)V"⟩ ∈ gb := gs_4 (⟨"JoinedTreesModel", "elementCandidates", "(III)V"⟩, _) 1 rfl
theorem kp_50 : Cond.selects "JoinedTreesModel" ⟨"JoinedTreesModel", "indices", "(II)I"⟩ ⟨"JoinedTreesModel", "indices", "(II)I"⟩ ∈ gb := gs_4 (⟨"JoinedTreesModel", "indices", "(II)I"⟩, _) 2 rfl
theorem kp_51 : Cond.selects "JoinedTreesModel" ⟨"JoinedTreesModel", "insertBehind", "(IIIIJ[BII)I"⟩ ⟨"JoinedTreesModel", "insertBehind", "(IIIIJ[BII)I"⟩ ∈ gb := gs_4 (⟨"JoinedTreesModel", "insertBehind", "(IIIIJ[BII)I"⟩, _) 3 rfl
theorem kp_52 : Cond.selects "JoinedTreesModel" ⟨"JoinedTreesModel", "act", "(IIIIJ)I"⟩ ⟨"JoinedTreesModel", "act", "(IIIIJ)I"⟩ ∈ gb := gs_4 (⟨"JoinedTreesModel", "act", "(IIIIJ)I"⟩, _) 4 rfl
theorem kp_53 : Cond.selects "JoinedTreesModel" ⟨"JoinedTreesModel", "point", "(IIIII)I"⟩ ⟨"JoinedTreesModel", "point", "(IIIII)I"⟩ ∈ gb := gs_4 (⟨"JoinedTreesModel", "point", "(IIIII)I"⟩, _) 5 rfl
theorem kp_54 : Cond.selects "JoinedTreesModel" ⟨"JoinedTreesModel", "json", "()Z"⟩ ⟨"JoinedTreesModel", "json", "()Z"⟩ ∈ gb := gs_4 (⟨"JoinedTreesModel", "json", "()Z"⟩, _) 6 rfl
theorem kp_55 : Cond.selects "JoinedTreesModel" ⟨"JoinedTreesModel", "one", "(II)V"⟩ ⟨"JoinedTreesModel", "one", "(II)V"⟩ ∈ gb := gs_4 (⟨"JoinedTreesModel", "one", "(II)V"⟩, _) 7 rfl
theorem kp_56 : Cond.selects "JoinedTreesModel" ⟨"JoinedTreesModel", "skip", "()V"⟩ ⟨"JoinedTreesModel", "skip", "()V"⟩ ∈ gb := gs_4 (⟨"JoinedTreesModel", "skip", "()V"⟩, _) 8 rfl
theorem kp_57 : Cond.selects "JoinedTreesModel" ⟨"JoinedTreesModel", "sign", "()I"⟩ ⟨"JoinedTreesModel", "sign", "()I"⟩ ∈ gb := gs_4 (⟨"JoinedTreesModel", "sign", "()I"⟩, _) 9 rfl
theorem kp_58 : Cond.selects "JoinedTreesModel" ⟨"JoinedTreesModel", "word", "(Ljava/lang/String;)V"⟩ ⟨"JoinedTreesModel", "word", "(Ljava/lang/String;)V"⟩ ∈ gb := gs_4 (⟨"JoinedTreesModel", "word", "(Ljava/lang/String;)V"⟩, _) 10 rfl
theorem kp_59 : Cond.selects "JoinedTreesModel" ⟨"JoinedTreesModel", "string", "(I)I"⟩ ⟨"JoinedTreesModel", "string", "(I)I"⟩ ∈ gb := gs_4 (⟨"JoinedTreesModel", "string", "(I)I"⟩, _) 11 rfl
theorem kp_60 : Cond.selects "JoinedTreesModel" ⟨"JoinedTreesModel", "digits", "(I)V"⟩ ⟨"JoinedTreesModel", "digits", "(I)V"⟩ ∈ gb := gs_4 (⟨"JoinedTreesModel", "digits", "(I)V"⟩, _) 12 rfl
theorem kp_61 : Cond.selects "JoinedTreesModel" ⟨"JoinedTreesModel", "member", "()V"⟩ ⟨"JoinedTreesModel", "member", "()V"⟩ ∈ gb := gs_4 (⟨"JoinedTreesModel", "member", "()V"⟩, _) 13 rfl
theorem kp_62 : Cond.selects "JoinedTreesModel" ⟨"JoinedTreesModel", "keyThere", "(III)Z"⟩ ⟨"JoinedTreesModel", "keyThere", "(III)Z"⟩ ∈ gb := gs_4 (⟨"JoinedTreesModel", "keyThere", "(III)Z"⟩, _) 14 rfl
theorem kp_63 : Cond.selects "JoinedTreesModel" ⟨"JoinedTreesModel", "open", "(I)I"⟩ ⟨"JoinedTreesModel", "open", "(I)I"⟩ ∈ gb := gs_4 (⟨"JoinedTreesModel", "open", "(I)I"⟩, _) 15 rfl
theorem kp_64 : Cond.selects "JoinedTreesModel" ⟨"JoinedTreesModel", "numberOf", "(II)I"⟩ ⟨"JoinedTreesModel", "numberOf", "(II)I"⟩ ∈ gb := gs_5 (⟨"JoinedTreesModel", "numberOf", "(II)I"⟩, _) 0 rfl
theorem kp_65 : Cond.selects "JoinedTreesModel" ⟨"JoinedTreesModel", "isHead", "(II)Z"⟩ ⟨"JoinedTreesModel", "isHead", "(II)Z"⟩ ∈ gb := gs_5 (⟨"JoinedTreesModel", "isHead", "(II)Z"⟩, _) 1 rfl
theorem kp_66 : Cond.selects "JoinedTreesModel" ⟨"JoinedTreesModel", "find", "(II)I"⟩ ⟨"JoinedTreesModel", "find", "(II)I"⟩ ∈ gb := gs_5 (⟨"JoinedTreesModel", "find", "(II)I"⟩, _) 2 rfl
theorem kp_67 : Cond.selects "JoinedTreesModel" ⟨"JoinedTreesModel", "settle", "(I)I"⟩ ⟨"JoinedTreesModel", "settle", "(I)I"⟩ ∈ gb := gs_5 (⟨"JoinedTreesModel", "settle", "(I)I"⟩, _) 3 rfl
theorem kp_68 : Cond.selects "JoinedTreesModel" ⟨"JoinedTreesModel", "ready", "(II)Z"⟩ ⟨"JoinedTreesModel", "ready", "(II)Z"⟩ ∈ gb := gs_5 (⟨"JoinedTreesModel", "ready", "(II)Z"⟩, _) 4 rfl
theorem kp_69 : Cond.selects "JoinedTreesModel" ⟨"JoinedTreesModel", "view", "(I)I"⟩ ⟨"JoinedTreesModel", "view", "(I)I"⟩ ∈ gb := gs_5 (⟨"JoinedTreesModel", "view", "(I)I"⟩, _) 5 rfl
theorem kp_70 : Cond.selects "JoinedTreesModel" ⟨"JoinedTreesModel", "keysOf", "(II)V"⟩ ⟨"JoinedTreesModel", "keysOf", "(II)V"⟩ ∈ gb := gs_5 (⟨"JoinedTreesModel", "keysOf", "(II)V"⟩, _) 6 rfl
theorem kp_71 : Cond.selects "JoinedTreesModel" ⟨"JoinedTreesModel", "compareKeys", "(II)I"⟩ ⟨"JoinedTreesModel", "compareKeys", "(II)I"⟩ ∈ gb := gs_5 (⟨"JoinedTreesModel", "compareKeys", "(II)I"⟩, _) 7 rfl
theorem kp_72 : Cond.selects "JoinedTreesModel" ⟨"JoinedTreesModel", "counter", "(II)J"⟩ ⟨"JoinedTreesModel", "counter", "(II)J"⟩ ∈ gb := gs_5 (⟨"JoinedTreesModel", "counter", "(II)J"⟩, _) 8 rfl
theorem kp_73 : Cond.selects "JoinedTreesModel" ⟨"JoinedTreesModel", "listKind", "(II)I"⟩ ⟨"JoinedTreesModel", "listKind", "(II)I"⟩ ∈ gb := gs_5 (⟨"JoinedTreesModel", "listKind", "(II)I"⟩, _) 9 rfl
theorem kp_74 : Cond.selects "JoinedTreesModel" ⟨"JoinedTreesModel", "isPath", "()Z"⟩ ⟨"JoinedTreesModel", "isPath", "()Z"⟩ ∈ gb := gs_5 (⟨"JoinedTreesModel", "isPath", "()Z"⟩, _) 10 rfl
theorem kp_75 : Cond.selects "JoinedTreesModel" ⟨"JoinedTreesModel", "begin", "(III)V"⟩ ⟨"JoinedTreesModel", "begin", "(III)V"⟩ ∈ gb := gs_5 (⟨"JoinedTreesModel", "begin", "(III)V"⟩, _) 11 rfl
theorem kp_76 : Cond.selects "JoinedTreesModel" ⟨"JoinedTreesModel", "write", "(I)V"⟩ ⟨"JoinedTreesModel", "write", "(I)V"⟩ ∈ gb := gs_5 (⟨"JoinedTreesModel", "write", "(I)V"⟩, _) 12 rfl
theorem kp_77 : Cond.selects "JoinedTreesModel" ⟨"JoinedTreesModel", "push", "(I)V"⟩ ⟨"JoinedTreesModel", "push", "(I)V"⟩ ∈ gb := gs_5 (⟨"JoinedTreesModel", "push", "(I)V"⟩, _) 13 rfl
theorem kp_78 : Cond.selects "JoinedTreesModel" ⟨"JoinedTreesModel", "escaped", "(I)V"⟩ ⟨"JoinedTreesModel", "escaped", "(I)V"⟩ ∈ gb := gs_5 (⟨"JoinedTreesModel", "escaped", "(I)V"⟩, _) 14 rfl
theorem kp_79 : Cond.selects "JoinedTreesModel" ⟨"JoinedTreesModel", "name", "(I)V"⟩ ⟨"JoinedTreesModel", "name", "(I)V"⟩ ∈ gb := gs_5 (⟨"JoinedTreesModel", "name", "(I)V"⟩, _) 15 rfl
theorem kp_80 : Cond.selects "JoinedTreesModel" ⟨"JoinedTreesModel", "plain", "(II)V"⟩ ⟨"JoinedTreesModel", "plain", "(II)V"⟩ ∈ gb := gs_6 (⟨"JoinedTreesModel", "plain", "(II)V"⟩, _) 0 rfl
theorem kp_81 : Cond.selects "JoinedTreesModel" ⟨"JoinedTreesModel", "digits", "(J)V"⟩ ⟨"JoinedTreesModel", "digits", "(J)V"⟩ ∈ gb := gs_6 (⟨"JoinedTreesModel", "digits", "(J)V"⟩, _) 1 rfl
theorem kp_82 : Cond.selects "JoinedTreesModel" ⟨"JoinedTreesModel", "group", "(J)V"⟩ ⟨"JoinedTreesModel", "group", "(J)V"⟩ ∈ gb := gs_6 (⟨"JoinedTreesModel", "group", "(J)V"⟩, _) 2 rfl
theorem kp_83 : Cond.selects "JoinedTreesModel" ⟨"JoinedTreesModel", "saveChange", "(I)V"⟩ ⟨"JoinedTreesModel", "saveChange", "(I)V"⟩ ∈ gb := gs_6 (⟨"JoinedTreesModel", "saveChange", "(I)V"⟩, _) 3 rfl
theorem kp_84 : Cond.selects "JoinedTreesModel" ⟨"JoinedTreesModel", "saveOp", "(I)V"⟩ ⟨"JoinedTreesModel", "saveOp", "(I)V"⟩ ∈ gb := gs_6 (⟨"JoinedTreesModel", "saveOp", "(I)V"⟩, _) 4 rfl
theorem kp_85 : Cond.selects "JoinedTreesModel" ⟨"JoinedTreesModel", "long2", "(J)V"⟩ ⟨"JoinedTreesModel", "long2", "(J)V"⟩ ∈ gb := gs_6 (⟨"JoinedTreesModel", "long2", "(J)V"⟩, _) 5 rfl
theorem kp_86 : Cond.selects "JoinedTreesModel" ⟨"JoinedTreesModel", "crc", "(I)I"⟩ ⟨"JoinedTreesModel", "crc", "(I)I"⟩ ∈ gb := gs_6 (⟨"JoinedTreesModel", "crc", "(I)I"⟩, _) 6 rfl
theorem kp_87 : Cond.selects "JoinedTreesModel" ⟨"JoinedTreesModel", "isSaved", "()Z"⟩ ⟨"JoinedTreesModel", "isSaved", "()Z"⟩ ∈ gb := gs_6 (⟨"JoinedTreesModel", "isSaved", "()Z"⟩, _) 7 rfl
theorem kp_88 : Cond.selects "JoinedTreesModel" ⟨"JoinedTreesModel", "grouped", "()I"⟩ ⟨"JoinedTreesModel", "grouped", "()I"⟩ ∈ gb := gs_6 (⟨"JoinedTreesModel", "grouped", "()I"⟩, _) 8 rfl
theorem kp_89 : Cond.selects "JoinedTreesModel" ⟨"JoinedTreesModel", "stands", "(II)Z"⟩ ⟨"JoinedTreesModel", "stands", "(II)Z"⟩ ∈ gb := gs_6 (⟨"JoinedTreesModel", "stands", "(II)Z"⟩, _) 9 rfl
