/-! The words of the tables, by their places. -/
theorem am_in {w : Jvm.Cond} (h : w ∈ lw_tbl) (g : goodWord w = true) : w ∈ am_G := List.mem_filter.mpr ⟨h, g⟩
theorem am_ck0 {w : Jvm.Cond} (i : Nat) (h : tables_1_1[i]? = some w) : w ∈ lw_tbl := List.mem_append_right _ (List.mem_append_left _ (List.mem_of_getElem? h))
theorem am_ck1 {w : Jvm.Cond} (i : Nat) (h : tables_1_2[i]? = some w) : w ∈ lw_tbl := List.mem_append_right _ (List.mem_append_right _ (List.mem_append_left _ (List.mem_of_getElem? h)))
theorem am_ck2 {w : Jvm.Cond} (i : Nat) (h : tables_1_3[i]? = some w) : w ∈ lw_tbl := List.mem_append_right _ (List.mem_append_right _ (List.mem_append_right _ (List.mem_append_left _ (List.mem_of_getElem? h))))
theorem am_ck3 {w : Jvm.Cond} (i : Nat) (h : tables_1_4[i]? = some w) : w ∈ lw_tbl := List.mem_append_right _ (List.mem_append_right _ (List.mem_append_right _ (List.mem_append_right _ (List.mem_append_left _ (List.mem_of_getElem? h)))))
theorem am_ck4 {w : Jvm.Cond} (i : Nat) (h : tables_1_5[i]? = some w) : w ∈ lw_tbl := List.mem_append_right _ (List.mem_append_right _ (List.mem_append_right _ (List.mem_append_right _ (List.mem_append_right _ (List.mem_append_left _ (List.mem_of_getElem? h))))))
theorem am_ck5 {w : Jvm.Cond} (i : Nat) (h : tables_1_6[i]? = some w) : w ∈ lw_tbl := List.mem_append_right _ (List.mem_append_right _ (List.mem_append_right _ (List.mem_append_right _ (List.mem_append_right _ (List.mem_append_right _ (List.mem_of_getElem? h))))))
theorem am_cp {q : MethodName × Nat} (i : Nat) (h : lw_privs[i]? = some q) : Jvm.Cond.selects q.1.cls q.1 q.1 ∈ lw_tbl := List.mem_append_left _ (List.mem_map.mpr ⟨q, List.mem_of_getElem? h, rfl⟩)
theorem gw_0_1 : (Jvm.Cond.initialized "ClassDesk") ∈ am_G := am_in (am_ck0 1 rfl) rfl
theorem gw_0_2 : (Jvm.Cond.initialized "ClassDesk$Classes") ∈ am_G := am_in (am_ck0 2 rfl) rfl
theorem gw_0_3 : (Jvm.Cond.initialized "ClassDesk$Instances") ∈ am_G := am_in (am_ck0 3 rfl) rfl
theorem gw_0_4 : (Jvm.Cond.initialized "ClassDesk$Methods") ∈ am_G := am_in (am_ck0 4 rfl) rfl
theorem gw_0_5 : (Jvm.Cond.initialized "ClassDesk$Keeper") ∈ am_G := am_in (am_ck0 5 rfl) rfl
theorem gw_0_6 : (Jvm.Cond.initialized "ClassDesk$Bodies") ∈ am_G := am_in (am_ck0 6 rfl) rfl
theorem gw_0_7 : (Jvm.Cond.initialized "ClassDesk$Notes") ∈ am_G := am_in (am_ck0 7 rfl) rfl
theorem gw_0_8 : (Jvm.Cond.initialized "ClassDesk$Machine") ∈ am_G := am_in (am_ck0 8 rfl) rfl
theorem gw_0_9 : (Jvm.Cond.initialized "ClassDeskModel") ∈ am_G := am_in (am_ck0 9 rfl) rfl
theorem gw_0_10 : (Jvm.Cond.initialized "java/lang/System") ∈ am_G := am_in (am_ck0 10 rfl) rfl
theorem gw_0_11 : (Jvm.Cond.initialized "ClassDesk$Work") ∈ am_G := am_in (am_ck0 11 rfl) rfl
theorem gw_0_12 : (Jvm.Cond.initialized "ClassDesk$Effective") ∈ am_G := am_in (am_ck0 12 rfl) rfl
theorem gw_0_13 : (Jvm.Cond.initialized "ClassDesk$Frame") ∈ am_G := am_in (am_ck0 13 rfl) rfl
theorem gw_0_14 : (Jvm.Cond.initialized "java/lang/Math") ∈ am_G := am_in (am_ck0 14 rfl) rfl
theorem gw_0_15 : (Jvm.Cond.classLink "ClassDeskLaw" (7 : Nat) "ClassDesk") ∈ am_G := am_in (am_ck0 15 rfl) rfl
theorem gw_0_16 : (Jvm.Cond.instantiable "ClassDesk" (8 : Nat)) ∈ am_G := am_in (am_ck0 16 rfl) rfl
theorem gw_0_17 : (Jvm.Cond.methodLink "ClassDeskLaw" (9 : Nat) ({ cls := "ClassDesk", name := "<init>", desc := "()V" } : Jvm.MethodName)) ∈ am_G := am_in (am_ck0 17 rfl) rfl
theorem gw_0_18 : (Jvm.Cond.instanceMethod ({ cls := "ClassDesk", name := "<init>", desc := "()V" } : Jvm.MethodName)) ∈ am_G := am_in (am_ck0 18 rfl) rfl
theorem gw_0_19 : (Jvm.Cond.code ({ cls := "ClassDesk", name := "<init>", desc := "()V" } : Jvm.MethodName) prog_1_method_1_code (1 : Nat) (Option.none : Option Jvm.ClassFile.FieldType)) ∈ am_G := am_in (am_ck0 19 rfl) rfl
theorem gw_0_20 : (Jvm.Cond.methodLink "ClassDesk" (1 : Nat) ({ cls := "java/lang/Object", name := "<init>", desc := "()V" } : Jvm.MethodName)) ∈ am_G := am_in (am_ck0 20 rfl) rfl
theorem gw_0_21 : (Jvm.Cond.instanceMethod ({ cls := "java/lang/Object", name := "<init>", desc := "()V" } : Jvm.MethodName)) ∈ am_G := am_in (am_ck0 21 rfl) rfl
theorem gw_0_22 : (Jvm.Cond.code ({ cls := "java/lang/Object", name := "<init>", desc := "()V" } : Jvm.MethodName) object_method_1_code (1 : Nat) (Option.none : Option Jvm.ClassFile.FieldType)) ∈ am_G := am_in (am_ck0 22 rfl) rfl
theorem gw_0_23 : (Jvm.Cond.classLink "ClassDesk" (7 : Nat) "ClassDesk$Classes") ∈ am_G := am_in (am_ck0 23 rfl) rfl
theorem gw_0_24 : (Jvm.Cond.instantiable "ClassDesk$Classes" (8 : Nat)) ∈ am_G := am_in (am_ck0 24 rfl) rfl
theorem gw_0_25 : (Jvm.Cond.methodLink "ClassDesk" (9 : Nat) ({ cls := "ClassDesk$Classes", name := "<init>", desc := "()V" } : Jvm.MethodName)) ∈ am_G := am_in (am_ck0 25 rfl) rfl
theorem gw_0_26 : (Jvm.Cond.instanceMethod ({ cls := "ClassDesk$Classes", name := "<init>", desc := "()V" } : Jvm.MethodName)) ∈ am_G := am_in (am_ck0 26 rfl) rfl
theorem gw_0_27 : (Jvm.Cond.code ({ cls := "ClassDesk$Classes", name := "<init>", desc := "()V" } : Jvm.MethodName) prog_3_method_1_code (2 : Nat) (Option.none : Option Jvm.ClassFile.FieldType)) ∈ am_G := am_in (am_ck0 27 rfl) rfl
theorem gw_0_28 : (Jvm.Cond.methodLink "ClassDesk$Classes" (3 : Nat) ({ cls := "java/lang/Object", name := "<init>", desc := "()V" } : Jvm.MethodName)) ∈ am_G := am_in (am_ck0 28 rfl) rfl
theorem gw_0_29 : (Jvm.Cond.fieldLink "ClassDesk$Classes" (9 : Nat) "ClassDesk$Classes" "supers" "[I") ∈ am_G := am_in (am_ck0 29 rfl) rfl
theorem gw_0_30 : (Jvm.Cond.fieldLink "ClassDesk$Classes" (15 : Nat) "ClassDesk$Classes" "rows" "[I") ∈ am_G := am_in (am_ck0 30 rfl) rfl
theorem gw_0_31 : (Jvm.Cond.fieldLink "ClassDesk$Classes" (18 : Nat) "ClassDesk$Classes" "lengths" "[I") ∈ am_G := am_in (am_ck0 31 rfl) rfl
theorem gw_0_32 : (Jvm.Cond.fieldLink "ClassDesk$Classes" (21 : Nat) "ClassDesk$Classes" "slotHow" "[I") ∈ am_G := am_in (am_ck0 32 rfl) rfl
theorem gw_0_33 : (Jvm.Cond.fieldLink "ClassDesk$Classes" (24 : Nat) "ClassDesk$Classes" "slotInt" "[I") ∈ am_G := am_in (am_ck0 33 rfl) rfl
theorem gw_0_34 : (Jvm.Cond.fieldLink "ClassDesk$Classes" (27 : Nat) "ClassDesk$Classes" "there" "I") ∈ am_G := am_in (am_ck0 34 rfl) rfl
theorem gw_0_35 : (Jvm.Cond.fieldLink "ClassDesk$Classes" (31 : Nat) "ClassDesk$Classes" "draft" "[I") ∈ am_G := am_in (am_ck0 35 rfl) rfl
theorem gw_0_36 : (Jvm.Cond.fieldLink "ClassDesk$Classes" (34 : Nat) "ClassDesk$Classes" "mustStandBefore" "[I") ∈ am_G := am_in (am_ck0 36 rfl) rfl
theorem gw_0_37 : (Jvm.Cond.laysFinal "ClassDesk$Classes" "ClassDesk$Classes" "supers" "[I") ∈ am_G := am_in (am_ck0 37 rfl) rfl
theorem gw_0_39 : (Jvm.Cond.laysFinal "ClassDesk$Classes" "ClassDesk$Classes" "rows" "[I") ∈ am_G := am_in (am_ck0 39 rfl) rfl
theorem gw_0_41 : (Jvm.Cond.laysFinal "ClassDesk$Classes" "ClassDesk$Classes" "lengths" "[I") ∈ am_G := am_in (am_ck0 41 rfl) rfl
theorem gw_0_43 : (Jvm.Cond.laysFinal "ClassDesk$Classes" "ClassDesk$Classes" "slotHow" "[I") ∈ am_G := am_in (am_ck0 43 rfl) rfl
theorem gw_0_45 : (Jvm.Cond.laysFinal "ClassDesk$Classes" "ClassDesk$Classes" "slotInt" "[I") ∈ am_G := am_in (am_ck0 45 rfl) rfl
theorem gw_0_47 : (Jvm.Cond.lays "ClassDesk$Classes" "ClassDesk$Classes" "there" "I") ∈ am_G := am_in (am_ck0 47 rfl) rfl
theorem gw_0_49 : (Jvm.Cond.laysFinal "ClassDesk$Classes" "ClassDesk$Classes" "draft" "[I") ∈ am_G := am_in (am_ck0 49 rfl) rfl
theorem gw_0_51 : (Jvm.Cond.laysFinal "ClassDesk$Classes" "ClassDesk$Classes" "mustStandBefore" "[I") ∈ am_G := am_in (am_ck0 51 rfl) rfl
theorem gw_0_54 : (Jvm.Cond.arrayClass Jvm.ClassFile.FieldType.int) ∈ am_G := am_in (am_ck0 54 rfl) rfl
theorem gw_0_55 : (Jvm.Cond.classLink "ClassDesk" (16 : Nat) "ClassDesk$Instances") ∈ am_G := am_in (am_ck0 55 rfl) rfl
theorem gw_0_56 : (Jvm.Cond.instantiable "ClassDesk$Instances" (7 : Nat)) ∈ am_G := am_in (am_ck0 56 rfl) rfl
theorem gw_0_57 : (Jvm.Cond.methodLink "ClassDesk" (18 : Nat) ({ cls := "ClassDesk$Instances", name := "<init>", desc := "(LClassDesk$Classes;)V" } : Jvm.MethodName)) ∈ am_G := am_in (am_ck0 57 rfl) rfl
theorem gw_0_58 : (Jvm.Cond.instanceMethod ({ cls := "ClassDesk$Instances", name := "<init>", desc := "(LClassDesk$Classes;)V" } : Jvm.MethodName)) ∈ am_G := am_in (am_ck0 58 rfl) rfl
theorem gw_0_59 : (Jvm.Cond.code ({ cls := "ClassDesk$Instances", name := "<init>", desc := "(LClassDesk$Classes;)V" } : Jvm.MethodName) prog_6_method_1_code (2 : Nat) (Option.none : Option Jvm.ClassFile.FieldType)) ∈ am_G := am_in (am_ck0 59 rfl) rfl
theorem gw_0_60 : (Jvm.Cond.methodLink "ClassDesk$Instances" (3 : Nat) ({ cls := "java/lang/Object", name := "<init>", desc := "()V" } : Jvm.MethodName)) ∈ am_G := am_in (am_ck0 60 rfl) rfl
theorem gw_0_61 : (Jvm.Cond.fieldLink "ClassDesk$Instances" (31 : Nat) "ClassDesk$Instances" "classes" "LClassDesk$Classes;") ∈ am_G := am_in (am_ck0 61 rfl) rfl
theorem gw_0_62 : (Jvm.Cond.fieldLink "ClassDesk$Instances" (9 : Nat) "ClassDesk$Instances" "classNumbers" "[I") ∈ am_G := am_in (am_ck0 62 rfl) rfl
theorem gw_0_63 : (Jvm.Cond.fieldLink "ClassDesk$Instances" (15 : Nat) "ClassDesk$Instances" "layouts" "[I") ∈ am_G := am_in (am_ck0 63 rfl) rfl
theorem gw_0_64 : (Jvm.Cond.fieldLink "ClassDesk$Instances" (18 : Nat) "ClassDesk$Instances" "bound" "[I") ∈ am_G := am_in (am_ck0 64 rfl) rfl
theorem gw_0_65 : (Jvm.Cond.fieldLink "ClassDesk$Instances" (21 : Nat) "ClassDesk$Instances" "values" "[I") ∈ am_G := am_in (am_ck0 65 rfl) rfl
theorem gw_0_66 : (Jvm.Cond.fieldLink "ClassDesk$Instances" (24 : Nat) "ClassDesk$Instances" "made" "I") ∈ am_G := am_in (am_ck0 66 rfl) rfl
theorem gw_0_67 : (Jvm.Cond.fieldLink "ClassDesk$Instances" (28 : Nat) "ClassDesk$Instances" "changes" "I") ∈ am_G := am_in (am_ck0 67 rfl) rfl
theorem gw_0_68 : (Jvm.Cond.laysFinal "ClassDesk$Instances" "ClassDesk$Instances" "classes" "LClassDesk$Classes;") ∈ am_G := am_in (am_ck0 68 rfl) rfl
theorem gw_0_70 : (Jvm.Cond.laysFinal "ClassDesk$Instances" "ClassDesk$Instances" "classNumbers" "[I") ∈ am_G := am_in (am_ck0 70 rfl) rfl
theorem gw_0_72 : (Jvm.Cond.laysFinal "ClassDesk$Instances" "ClassDesk$Instances" "layouts" "[I") ∈ am_G := am_in (am_ck0 72 rfl) rfl
theorem gw_0_74 : (Jvm.Cond.laysFinal "ClassDesk$Instances" "ClassDesk$Instances" "bound" "[I") ∈ am_G := am_in (am_ck0 74 rfl) rfl
theorem gw_0_76 : (Jvm.Cond.laysFinal "ClassDesk$Instances" "ClassDesk$Instances" "values" "[I") ∈ am_G := am_in (am_ck0 76 rfl) rfl
theorem gw_0_78 : (Jvm.Cond.lays "ClassDesk$Instances" "ClassDesk$Instances" "made" "I") ∈ am_G := am_in (am_ck0 78 rfl) rfl
theorem gw_0_80 : (Jvm.Cond.lays "ClassDesk$Instances" "ClassDesk$Instances" "changes" "I") ∈ am_G := am_in (am_ck0 80 rfl) rfl
theorem gw_0_83 : (Jvm.Cond.classLink "ClassDesk" (25 : Nat) "ClassDesk$Methods") ∈ am_G := am_in (am_ck0 83 rfl) rfl
theorem gw_0_84 : (Jvm.Cond.instantiable "ClassDesk$Methods" (7 : Nat)) ∈ am_G := am_in (am_ck0 84 rfl) rfl
theorem gw_0_85 : (Jvm.Cond.methodLink "ClassDesk" (27 : Nat) ({ cls := "ClassDesk$Methods", name := "<init>", desc := "()V" } : Jvm.MethodName)) ∈ am_G := am_in (am_ck0 85 rfl) rfl
theorem gw_0_86 : (Jvm.Cond.instanceMethod ({ cls := "ClassDesk$Methods", name := "<init>", desc := "()V" } : Jvm.MethodName)) ∈ am_G := am_in (am_ck0 86 rfl) rfl
theorem gw_0_87 : (Jvm.Cond.code ({ cls := "ClassDesk$Methods", name := "<init>", desc := "()V" } : Jvm.MethodName) prog_9_method_1_code (2 : Nat) (Option.none : Option Jvm.ClassFile.FieldType)) ∈ am_G := am_in (am_ck0 87 rfl) rfl
theorem gw_0_88 : (Jvm.Cond.methodLink "ClassDesk$Methods" (3 : Nat) ({ cls := "java/lang/Object", name := "<init>", desc := "()V" } : Jvm.MethodName)) ∈ am_G := am_in (am_ck0 88 rfl) rfl
theorem gw_0_89 : (Jvm.Cond.fieldLink "ClassDesk$Methods" (9 : Nat) "ClassDesk$Methods" "parameters" "[I") ∈ am_G := am_in (am_ck0 89 rfl) rfl
theorem gw_0_90 : (Jvm.Cond.fieldLink "ClassDesk$Methods" (15 : Nat) "ClassDesk$Methods" "owners" "[I") ∈ am_G := am_in (am_ck0 90 rfl) rfl
theorem gw_0_91 : (Jvm.Cond.fieldLink "ClassDesk$Methods" (18 : Nat) "ClassDesk$Methods" "kinds" "[I") ∈ am_G := am_in (am_ck0 91 rfl) rfl
theorem gw_0_92 : (Jvm.Cond.fieldLink "ClassDesk$Methods" (21 : Nat) "ClassDesk$Methods" "firsts" "[I") ∈ am_G := am_in (am_ck0 92 rfl) rfl
theorem gw_0_93 : (Jvm.Cond.fieldLink "ClassDesk$Methods" (24 : Nat) "ClassDesk$Methods" "seconds" "[I") ∈ am_G := am_in (am_ck0 93 rfl) rfl
theorem gw_0_94 : (Jvm.Cond.fieldLink "ClassDesk$Methods" (27 : Nat) "ClassDesk$Methods" "bodyNumbers" "[I") ∈ am_G := am_in (am_ck0 94 rfl) rfl
theorem gw_0_95 : (Jvm.Cond.fieldLink "ClassDesk$Methods" (30 : Nat) "ClassDesk$Methods" "there" "I") ∈ am_G := am_in (am_ck0 95 rfl) rfl
theorem gw_0_96 : (Jvm.Cond.laysFinal "ClassDesk$Methods" "ClassDesk$Methods" "parameters" "[I") ∈ am_G := am_in (am_ck0 96 rfl) rfl
theorem gw_0_98 : (Jvm.Cond.laysFinal "ClassDesk$Methods" "ClassDesk$Methods" "owners" "[I") ∈ am_G := am_in (am_ck0 98 rfl) rfl
theorem gw_0_100 : (Jvm.Cond.laysFinal "ClassDesk$Methods" "ClassDesk$Methods" "kinds" "[I") ∈ am_G := am_in (am_ck0 100 rfl) rfl
theorem gw_0_102 : (Jvm.Cond.laysFinal "ClassDesk$Methods" "ClassDesk$Methods" "firsts" "[I") ∈ am_G := am_in (am_ck0 102 rfl) rfl
theorem gw_0_104 : (Jvm.Cond.laysFinal "ClassDesk$Methods" "ClassDesk$Methods" "seconds" "[I") ∈ am_G := am_in (am_ck0 104 rfl) rfl
theorem gw_0_106 : (Jvm.Cond.laysFinal "ClassDesk$Methods" "ClassDesk$Methods" "bodyNumbers" "[I") ∈ am_G := am_in (am_ck0 106 rfl) rfl
theorem gw_0_108 : (Jvm.Cond.lays "ClassDesk$Methods" "ClassDesk$Methods" "there" "I") ∈ am_G := am_in (am_ck0 108 rfl) rfl
theorem gw_0_111 : (Jvm.Cond.classLink "ClassDesk" (32 : Nat) "ClassDesk$Keeper") ∈ am_G := am_in (am_ck0 111 rfl) rfl
theorem gw_0_112 : (Jvm.Cond.instantiable "ClassDesk$Keeper" (8 : Nat)) ∈ am_G := am_in (am_ck0 112 rfl) rfl
theorem gw_0_113 : (Jvm.Cond.methodLink "ClassDesk" (34 : Nat) ({ cls := "ClassDesk$Keeper", name := "<init>", desc := "(LClassDesk$Classes;LClassDesk$Instances;LClassDesk$Methods;)V" } : Jvm.MethodName)) ∈ am_G := am_in (am_ck0 113 rfl) rfl
theorem gw_0_114 : (Jvm.Cond.instanceMethod ({ cls := "ClassDesk$Keeper", name := "<init>", desc := "(LClassDesk$Classes;LClassDesk$Instances;LClassDesk$Methods;)V" } : Jvm.MethodName)) ∈ am_G := am_in (am_ck0 114 rfl) rfl
theorem gw_0_115 : (Jvm.Cond.code ({ cls := "ClassDesk$Keeper", name := "<init>", desc := "(LClassDesk$Classes;LClassDesk$Instances;LClassDesk$Methods;)V" } : Jvm.MethodName) prog_7_method_1_code (4 : Nat) (Option.none : Option Jvm.ClassFile.FieldType)) ∈ am_G := am_in (am_ck0 115 rfl) rfl
theorem gw_0_116 : (Jvm.Cond.methodLink "ClassDesk$Keeper" (3 : Nat) ({ cls := "java/lang/Object", name := "<init>", desc := "()V" } : Jvm.MethodName)) ∈ am_G := am_in (am_ck0 116 rfl) rfl
theorem gw_0_117 : (Jvm.Cond.classLink "ClassDesk$Keeper" (9 : Nat) "ClassDesk$Effective") ∈ am_G := am_in (am_ck0 117 rfl) rfl
theorem gw_0_119 : (Jvm.Cond.fieldLink "ClassDesk$Keeper" (31 : Nat) "ClassDesk$Keeper" "classes" "LClassDesk$Classes;") ∈ am_G := am_in (am_ck0 119 rfl) rfl
theorem gw_0_120 : (Jvm.Cond.fieldLink "ClassDesk$Keeper" (35 : Nat) "ClassDesk$Keeper" "instances" "LClassDesk$Instances;") ∈ am_G := am_in (am_ck0 120 rfl) rfl
theorem gw_0_121 : (Jvm.Cond.fieldLink "ClassDesk$Keeper" (39 : Nat) "ClassDesk$Keeper" "methods" "LClassDesk$Methods;") ∈ am_G := am_in (am_ck0 121 rfl) rfl
theorem gw_0_122 : (Jvm.Cond.fieldLink "ClassDesk$Keeper" (11 : Nat) "ClassDesk$Keeper" "table" "[LClassDesk$Effective;") ∈ am_G := am_in (am_ck0 122 rfl) rfl
theorem gw_0_123 : (Jvm.Cond.fieldLink "ClassDesk$Keeper" (17 : Nat) "ClassDesk$Keeper" "ages" "[I") ∈ am_G := am_in (am_ck0 123 rfl) rfl
theorem gw_0_124 : (Jvm.Cond.fieldLink "ClassDesk$Keeper" (21 : Nat) "ClassDesk$Keeper" "kept" "[I") ∈ am_G := am_in (am_ck0 124 rfl) rfl
theorem gw_0_125 : (Jvm.Cond.fieldLink "ClassDesk$Keeper" (24 : Nat) "ClassDesk$Keeper" "ranks" "[I") ∈ am_G := am_in (am_ck0 125 rfl) rfl
theorem gw_0_126 : (Jvm.Cond.fieldLink "ClassDesk$Keeper" (27 : Nat) "ClassDesk$Keeper" "found" "I") ∈ am_G := am_in (am_ck0 126 rfl) rfl
theorem gw_0_127 : (Jvm.Cond.laysFinal "ClassDesk$Keeper" "ClassDesk$Keeper" "classes" "LClassDesk$Classes;") ∈ am_G := am_in (am_ck0 127 rfl) rfl
theorem gw_0_129 : (Jvm.Cond.laysFinal "ClassDesk$Keeper" "ClassDesk$Keeper" "instances" "LClassDesk$Instances;") ∈ am_G := am_in (am_ck0 129 rfl) rfl
theorem gw_0_131 : (Jvm.Cond.laysFinal "ClassDesk$Keeper" "ClassDesk$Keeper" "methods" "LClassDesk$Methods;") ∈ am_G := am_in (am_ck0 131 rfl) rfl
theorem gw_0_133 : (Jvm.Cond.laysFinal "ClassDesk$Keeper" "ClassDesk$Keeper" "table" "[LClassDesk$Effective;") ∈ am_G := am_in (am_ck0 133 rfl) rfl
theorem gw_0_135 : (Jvm.Cond.laysFinal "ClassDesk$Keeper" "ClassDesk$Keeper" "ages" "[I") ∈ am_G := am_in (am_ck0 135 rfl) rfl
theorem gw_0_137 : (Jvm.Cond.laysFinal "ClassDesk$Keeper" "ClassDesk$Keeper" "kept" "[I") ∈ am_G := am_in (am_ck0 137 rfl) rfl
theorem gw_0_139 : (Jvm.Cond.laysFinal "ClassDesk$Keeper" "ClassDesk$Keeper" "ranks" "[I") ∈ am_G := am_in (am_ck0 139 rfl) rfl
theorem gw_0_141 : (Jvm.Cond.lays "ClassDesk$Keeper" "ClassDesk$Keeper" "found" "I") ∈ am_G := am_in (am_ck0 141 rfl) rfl
theorem gw_0_144 : (Jvm.Cond.classLink "ClassDesk" (41 : Nat) "ClassDesk$Bodies") ∈ am_G := am_in (am_ck0 144 rfl) rfl
theorem gw_0_145 : (Jvm.Cond.instantiable "ClassDesk$Bodies" (3 : Nat)) ∈ am_G := am_in (am_ck0 145 rfl) rfl
theorem gw_0_147 : (Jvm.Cond.instanceMethod ({ cls := "ClassDesk$Bodies", name := "<init>", desc := "()V" } : Jvm.MethodName)) ∈ am_G := am_in (am_ck0 147 rfl) rfl
theorem gw_0_148 : (Jvm.Cond.code ({ cls := "ClassDesk$Bodies", name := "<init>", desc := "()V" } : Jvm.MethodName) prog_2_method_1_code (1 : Nat) (Option.none : Option Jvm.ClassFile.FieldType)) ∈ am_G := am_in (am_ck0 148 rfl) rfl
theorem gw_0_149 : (Jvm.Cond.methodLink "ClassDesk$Bodies" (3 : Nat) ({ cls := "java/lang/Object", name := "<init>", desc := "()V" } : Jvm.MethodName)) ∈ am_G := am_in (am_ck0 149 rfl) rfl
theorem gw_0_150 : (Jvm.Cond.fieldLink "ClassDesk$Bodies" (9 : Nat) "ClassDesk$Bodies" "sizes" "[I") ∈ am_G := am_in (am_ck0 150 rfl) rfl
theorem gw_0_151 : (Jvm.Cond.fieldLink "ClassDesk$Bodies" (15 : Nat) "ClassDesk$Bodies" "ops" "[I") ∈ am_G := am_in (am_ck0 151 rfl) rfl
theorem gw_0_152 : (Jvm.Cond.fieldLink "ClassDesk$Bodies" (18 : Nat) "ClassDesk$Bodies" "operands" "[I") ∈ am_G := am_in (am_ck0 152 rfl) rfl
theorem gw_0_153 : (Jvm.Cond.laysFinal "ClassDesk$Bodies" "ClassDesk$Bodies" "sizes" "[I") ∈ am_G := am_in (am_ck0 153 rfl) rfl
theorem gw_0_155 : (Jvm.Cond.laysFinal "ClassDesk$Bodies" "ClassDesk$Bodies" "ops" "[I") ∈ am_G := am_in (am_ck0 155 rfl) rfl
theorem gw_0_157 : (Jvm.Cond.laysFinal "ClassDesk$Bodies" "ClassDesk$Bodies" "operands" "[I") ∈ am_G := am_in (am_ck0 157 rfl) rfl
theorem gw_0_160 : (Jvm.Cond.classLink "ClassDesk" (48 : Nat) "ClassDesk$Notes") ∈ am_G := am_in (am_ck0 160 rfl) rfl
theorem gw_0_161 : (Jvm.Cond.instantiable "ClassDesk$Notes" (4 : Nat)) ∈ am_G := am_in (am_ck0 161 rfl) rfl
theorem gw_0_163 : (Jvm.Cond.instanceMethod ({ cls := "ClassDesk$Notes", name := "<init>", desc := "()V" } : Jvm.MethodName)) ∈ am_G := am_in (am_ck0 163 rfl) rfl
theorem gw_0_164 : (Jvm.Cond.code ({ cls := "ClassDesk$Notes", name := "<init>", desc := "()V" } : Jvm.MethodName) prog_10_method_1_code (1 : Nat) (Option.none : Option Jvm.ClassFile.FieldType)) ∈ am_G := am_in (am_ck0 164 rfl) rfl
theorem gw_0_165 : (Jvm.Cond.methodLink "ClassDesk$Notes" (3 : Nat) ({ cls := "java/lang/Object", name := "<init>", desc := "()V" } : Jvm.MethodName)) ∈ am_G := am_in (am_ck0 165 rfl) rfl
theorem gw_0_166 : (Jvm.Cond.fieldLink "ClassDesk$Notes" (11 : Nat) "ClassDesk$Notes" "ring" "[I") ∈ am_G := am_in (am_ck0 166 rfl) rfl
theorem gw_0_167 : (Jvm.Cond.fieldLink "ClassDesk$Notes" (15 : Nat) "ClassDesk$Notes" "nextPlace" "I") ∈ am_G := am_in (am_ck0 167 rfl) rfl
theorem gw_0_168 : (Jvm.Cond.fieldLink "ClassDesk$Notes" (19 : Nat) "ClassDesk$Notes" "filled" "I") ∈ am_G := am_in (am_ck0 168 rfl) rfl
theorem gw_0_169 : (Jvm.Cond.fieldLink "ClassDesk$Notes" (22 : Nat) "ClassDesk$Notes" "all" "I") ∈ am_G := am_in (am_ck0 169 rfl) rfl
theorem gw_0_170 : (Jvm.Cond.laysFinal "ClassDesk$Notes" "ClassDesk$Notes" "ring" "[I") ∈ am_G := am_in (am_ck0 170 rfl) rfl
theorem gw_0_172 : (Jvm.Cond.lays "ClassDesk$Notes" "ClassDesk$Notes" "nextPlace" "I") ∈ am_G := am_in (am_ck0 172 rfl) rfl
theorem gw_0_174 : (Jvm.Cond.lays "ClassDesk$Notes" "ClassDesk$Notes" "filled" "I") ∈ am_G := am_in (am_ck0 174 rfl) rfl
theorem gw_0_176 : (Jvm.Cond.lays "ClassDesk$Notes" "ClassDesk$Notes" "all" "I") ∈ am_G := am_in (am_ck0 176 rfl) rfl
theorem gw_0_179 : (Jvm.Cond.classLink "ClassDesk" (55 : Nat) "ClassDesk$Machine") ∈ am_G := am_in (am_ck0 179 rfl) rfl
theorem gw_0_180 : (Jvm.Cond.instantiable "ClassDesk$Machine" (18 : Nat)) ∈ am_G := am_in (am_ck0 180 rfl) rfl
theorem gw_0_181 : (Jvm.Cond.methodLink "ClassDesk" (57 : Nat) ({ cls := "ClassDesk$Machine", name := "<init>", desc := "(LClassDesk$Classes;LClassDesk$Instances;LClassDesk$Methods;LClassDesk$Keeper;LClassDesk$Bodies;LClassDesk$Notes;)V" } : Jvm.MethodName)) ∈ am_G := am_in (am_ck0 181 rfl) rfl
theorem gw_0_182 : (Jvm.Cond.instanceMethod ({ cls := "ClassDesk$Machine", name := "<init>", desc := "(LClassDesk$Classes;LClassDesk$Instances;LClassDesk$Methods;LClassDesk$Keeper;LClassDesk$Bodies;LClassDesk$Notes;)V" } : Jvm.MethodName)) ∈ am_G := am_in (am_ck0 182 rfl) rfl
theorem gw_0_183 : (Jvm.Cond.code ({ cls := "ClassDesk$Machine", name := "<init>", desc := "(LClassDesk$Classes;LClassDesk$Instances;LClassDesk$Methods;LClassDesk$Keeper;LClassDesk$Bodies;LClassDesk$Notes;)V" } : Jvm.MethodName) prog_8_method_1_code (7 : Nat) (Option.none : Option Jvm.ClassFile.FieldType)) ∈ am_G := am_in (am_ck0 183 rfl) rfl
theorem gw_0_184 : (Jvm.Cond.methodLink "ClassDesk$Machine" (5 : Nat) ({ cls := "java/lang/Object", name := "<init>", desc := "()V" } : Jvm.MethodName)) ∈ am_G := am_in (am_ck0 184 rfl) rfl
theorem gw_0_185 : (Jvm.Cond.classLink "ClassDesk$Machine" (11 : Nat) "ClassDesk$Work") ∈ am_G := am_in (am_ck0 185 rfl) rfl
theorem gw_0_187 : (Jvm.Cond.classLink "ClassDesk$Machine" (17 : Nat) "ClassDesk$Frame") ∈ am_G := am_in (am_ck0 187 rfl) rfl
theorem gw_0_189 : (Jvm.Cond.fieldLink "ClassDesk$Machine" (54 : Nat) "ClassDesk$Machine" "classes" "LClassDesk$Classes;") ∈ am_G := am_in (am_ck0 189 rfl) rfl
theorem gw_0_190 : (Jvm.Cond.fieldLink "ClassDesk$Machine" (58 : Nat) "ClassDesk$Machine" "instances" "LClassDesk$Instances;") ∈ am_G := am_in (am_ck0 190 rfl) rfl
theorem gw_0_191 : (Jvm.Cond.fieldLink "ClassDesk$Machine" (62 : Nat) "ClassDesk$Machine" "methods" "LClassDesk$Methods;") ∈ am_G := am_in (am_ck0 191 rfl) rfl
theorem gw_0_192 : (Jvm.Cond.fieldLink "ClassDesk$Machine" (66 : Nat) "ClassDesk$Machine" "keeper" "LClassDesk$Keeper;") ∈ am_G := am_in (am_ck0 192 rfl) rfl
theorem gw_0_193 : (Jvm.Cond.fieldLink "ClassDesk$Machine" (70 : Nat) "ClassDesk$Machine" "bodies" "LClassDesk$Bodies;") ∈ am_G := am_in (am_ck0 193 rfl) rfl
theorem gw_0_194 : (Jvm.Cond.fieldLink "ClassDesk$Machine" (74 : Nat) "ClassDesk$Machine" "notes" "LClassDesk$Notes;") ∈ am_G := am_in (am_ck0 194 rfl) rfl
theorem gw_0_195 : (Jvm.Cond.fieldLink "ClassDesk$Machine" (13 : Nat) "ClassDesk$Machine" "works" "[LClassDesk$Work;") ∈ am_G := am_in (am_ck0 195 rfl) rfl
theorem gw_0_196 : (Jvm.Cond.fieldLink "ClassDesk$Machine" (19 : Nat) "ClassDesk$Machine" "frames" "[LClassDesk$Frame;") ∈ am_G := am_in (am_ck0 196 rfl) rfl
theorem gw_0_197 : (Jvm.Cond.fieldLink "ClassDesk$Machine" (23 : Nat) "ClassDesk$Machine" "atWork" "I") ∈ am_G := am_in (am_ck0 197 rfl) rfl
theorem gw_0_198 : (Jvm.Cond.fieldLink "ClassDesk$Machine" (27 : Nat) "ClassDesk$Machine" "open" "I") ∈ am_G := am_in (am_ck0 198 rfl) rfl
theorem gw_0_199 : (Jvm.Cond.fieldLink "ClassDesk$Machine" (30 : Nat) "ClassDesk$Machine" "stepsInCall" "I") ∈ am_G := am_in (am_ck0 199 rfl) rfl
theorem gw_0_200 : (Jvm.Cond.fieldLink "ClassDesk$Machine" (33 : Nat) "ClassDesk$Machine" "error" "I") ∈ am_G := am_in (am_ck0 200 rfl) rfl
theorem gw_0_201 : (Jvm.Cond.fieldLink "ClassDesk$Machine" (36 : Nat) "ClassDesk$Machine" "given" "I") ∈ am_G := am_in (am_ck0 201 rfl) rfl
theorem gw_0_202 : (Jvm.Cond.fieldLink "ClassDesk$Machine" (39 : Nat) "ClassDesk$Machine" "wanted" "I") ∈ am_G := am_in (am_ck0 202 rfl) rfl
theorem gw_0_203 : (Jvm.Cond.fieldLink "ClassDesk$Machine" (42 : Nat) "ClassDesk$Machine" "wantedX" "I") ∈ am_G := am_in (am_ck0 203 rfl) rfl
theorem gw_0_204 : (Jvm.Cond.fieldLink "ClassDesk$Machine" (45 : Nat) "ClassDesk$Machine" "wantedY" "I") ∈ am_G := am_in (am_ck0 204 rfl) rfl
theorem gw_0_205 : (Jvm.Cond.fieldLink "ClassDesk$Machine" (48 : Nat) "ClassDesk$Machine" "allBodies" "I") ∈ am_G := am_in (am_ck0 205 rfl) rfl
theorem gw_0_206 : (Jvm.Cond.fieldLink "ClassDesk$Machine" (51 : Nat) "ClassDesk$Machine" "allSteps" "I") ∈ am_G := am_in (am_ck0 206 rfl) rfl
theorem gw_0_207 : (Jvm.Cond.laysFinal "ClassDesk$Machine" "ClassDesk$Machine" "classes" "LClassDesk$Classes;") ∈ am_G := am_in (am_ck0 207 rfl) rfl
theorem gw_0_209 : (Jvm.Cond.laysFinal "ClassDesk$Machine" "ClassDesk$Machine" "instances" "LClassDesk$Instances;") ∈ am_G := am_in (am_ck0 209 rfl) rfl
theorem gw_0_211 : (Jvm.Cond.laysFinal "ClassDesk$Machine" "ClassDesk$Machine" "methods" "LClassDesk$Methods;") ∈ am_G := am_in (am_ck0 211 rfl) rfl
theorem gw_0_213 : (Jvm.Cond.laysFinal "ClassDesk$Machine" "ClassDesk$Machine" "keeper" "LClassDesk$Keeper;") ∈ am_G := am_in (am_ck0 213 rfl) rfl
theorem gw_0_215 : (Jvm.Cond.laysFinal "ClassDesk$Machine" "ClassDesk$Machine" "bodies" "LClassDesk$Bodies;") ∈ am_G := am_in (am_ck0 215 rfl) rfl
theorem gw_0_217 : (Jvm.Cond.laysFinal "ClassDesk$Machine" "ClassDesk$Machine" "notes" "LClassDesk$Notes;") ∈ am_G := am_in (am_ck0 217 rfl) rfl
theorem gw_0_219 : (Jvm.Cond.laysFinal "ClassDesk$Machine" "ClassDesk$Machine" "works" "[LClassDesk$Work;") ∈ am_G := am_in (am_ck0 219 rfl) rfl
theorem gw_0_221 : (Jvm.Cond.laysFinal "ClassDesk$Machine" "ClassDesk$Machine" "frames" "[LClassDesk$Frame;") ∈ am_G := am_in (am_ck0 221 rfl) rfl
theorem gw_0_223 : (Jvm.Cond.lays "ClassDesk$Machine" "ClassDesk$Machine" "atWork" "I") ∈ am_G := am_in (am_ck0 223 rfl) rfl
theorem gw_0_225 : (Jvm.Cond.lays "ClassDesk$Machine" "ClassDesk$Machine" "open" "I") ∈ am_G := am_in (am_ck0 225 rfl) rfl
theorem gw_0_227 : (Jvm.Cond.lays "ClassDesk$Machine" "ClassDesk$Machine" "stepsInCall" "I") ∈ am_G := am_in (am_ck0 227 rfl) rfl
theorem gw_0_229 : (Jvm.Cond.lays "ClassDesk$Machine" "ClassDesk$Machine" "error" "I") ∈ am_G := am_in (am_ck0 229 rfl) rfl
theorem gw_0_231 : (Jvm.Cond.lays "ClassDesk$Machine" "ClassDesk$Machine" "given" "I") ∈ am_G := am_in (am_ck0 231 rfl) rfl
theorem gw_0_233 : (Jvm.Cond.lays "ClassDesk$Machine" "ClassDesk$Machine" "wanted" "I") ∈ am_G := am_in (am_ck0 233 rfl) rfl
theorem gw_0_235 : (Jvm.Cond.lays "ClassDesk$Machine" "ClassDesk$Machine" "wantedX" "I") ∈ am_G := am_in (am_ck0 235 rfl) rfl
theorem gw_0_237 : (Jvm.Cond.lays "ClassDesk$Machine" "ClassDesk$Machine" "wantedY" "I") ∈ am_G := am_in (am_ck0 237 rfl) rfl
theorem gw_0_239 : (Jvm.Cond.lays "ClassDesk$Machine" "ClassDesk$Machine" "allBodies" "I") ∈ am_G := am_in (am_ck0 239 rfl) rfl
theorem gw_1_1 : (Jvm.Cond.lays "ClassDesk$Machine" "ClassDesk$Machine" "allSteps" "I") ∈ am_G := am_in (am_ck1 1 rfl) rfl
theorem gw_1_4 : (Jvm.Cond.fieldLink "ClassDesk" (10 : Nat) "ClassDesk" "classes" "LClassDesk$Classes;") ∈ am_G := am_in (am_ck1 4 rfl) rfl
theorem gw_1_5 : (Jvm.Cond.fieldLink "ClassDesk" (21 : Nat) "ClassDesk" "instances" "LClassDesk$Instances;") ∈ am_G := am_in (am_ck1 5 rfl) rfl
theorem gw_1_6 : (Jvm.Cond.fieldLink "ClassDesk" (28 : Nat) "ClassDesk" "methods" "LClassDesk$Methods;") ∈ am_G := am_in (am_ck1 6 rfl) rfl
theorem gw_1_7 : (Jvm.Cond.fieldLink "ClassDesk" (37 : Nat) "ClassDesk" "keeper" "LClassDesk$Keeper;") ∈ am_G := am_in (am_ck1 7 rfl) rfl
theorem gw_1_8 : (Jvm.Cond.fieldLink "ClassDesk" (44 : Nat) "ClassDesk" "bodies" "LClassDesk$Bodies;") ∈ am_G := am_in (am_ck1 8 rfl) rfl
theorem gw_1_9 : (Jvm.Cond.fieldLink "ClassDesk" (51 : Nat) "ClassDesk" "notes" "LClassDesk$Notes;") ∈ am_G := am_in (am_ck1 9 rfl) rfl
theorem gw_1_10 : (Jvm.Cond.fieldLink "ClassDesk" (60 : Nat) "ClassDesk" "machine" "LClassDesk$Machine;") ∈ am_G := am_in (am_ck1 10 rfl) rfl
theorem gw_1_11 : (Jvm.Cond.fieldLink "ClassDesk" (64 : Nat) "ClassDesk" "goodCalls" "I") ∈ am_G := am_in (am_ck1 11 rfl) rfl
theorem gw_1_12 : (Jvm.Cond.laysFinal "ClassDesk" "ClassDesk" "classes" "LClassDesk$Classes;") ∈ am_G := am_in (am_ck1 12 rfl) rfl
theorem gw_1_14 : (Jvm.Cond.laysFinal "ClassDesk" "ClassDesk" "instances" "LClassDesk$Instances;") ∈ am_G := am_in (am_ck1 14 rfl) rfl
theorem gw_1_16 : (Jvm.Cond.laysFinal "ClassDesk" "ClassDesk" "methods" "LClassDesk$Methods;") ∈ am_G := am_in (am_ck1 16 rfl) rfl
theorem gw_1_18 : (Jvm.Cond.laysFinal "ClassDesk" "ClassDesk" "keeper" "LClassDesk$Keeper;") ∈ am_G := am_in (am_ck1 18 rfl) rfl
theorem gw_1_20 : (Jvm.Cond.laysFinal "ClassDesk" "ClassDesk" "bodies" "LClassDesk$Bodies;") ∈ am_G := am_in (am_ck1 20 rfl) rfl
theorem gw_1_22 : (Jvm.Cond.laysFinal "ClassDesk" "ClassDesk" "notes" "LClassDesk$Notes;") ∈ am_G := am_in (am_ck1 22 rfl) rfl
theorem gw_1_24 : (Jvm.Cond.laysFinal "ClassDesk" "ClassDesk" "machine" "LClassDesk$Machine;") ∈ am_G := am_in (am_ck1 24 rfl) rfl
theorem gw_1_26 : (Jvm.Cond.lays "ClassDesk" "ClassDesk" "goodCalls" "I") ∈ am_G := am_in (am_ck1 26 rfl) rfl
theorem gw_1_29 : (Jvm.Cond.methodLink "ClassDeskLaw" (13 : Nat) ({ cls := "ClassDesk", name := "define", desc := "(IIII)I" } : Jvm.MethodName)) ∈ am_G := am_in (am_ck1 29 rfl) rfl
theorem gw_1_30 : (Jvm.Cond.instanceMethod ({ cls := "ClassDesk", name := "define", desc := "(IIII)I" } : Jvm.MethodName)) ∈ am_G := am_in (am_ck1 30 rfl) rfl
theorem gw_1_31 : (Jvm.Cond.selects "ClassDesk" ({ cls := "ClassDesk", name := "define", desc := "(IIII)I" } : Jvm.MethodName) ({ cls := "ClassDesk", name := "define", desc := "(IIII)I" } : Jvm.MethodName)) ∈ am_G := am_in (am_ck1 31 rfl) rfl
theorem gw_1_32 : (Jvm.Cond.code ({ cls := "ClassDesk", name := "define", desc := "(IIII)I" } : Jvm.MethodName) prog_1_method_2_code (6 : Nat) (Option.some Jvm.ClassFile.FieldType.int)) ∈ am_G := am_in (am_ck1 32 rfl) rfl
theorem gw_1_33 : (Jvm.Cond.methodLink "ClassDesk" (68 : Nat) ({ cls := "ClassDesk", name := "isWithin", desc := "(III)Z" } : Jvm.MethodName)) ∈ am_G := am_in (am_ck1 33 rfl) rfl
theorem gw_1_34 : (Jvm.Cond.static ({ cls := "ClassDesk", name := "isWithin", desc := "(III)Z" } : Jvm.MethodName)) ∈ am_G := am_in (am_ck1 34 rfl) rfl
theorem gw_1_35 : (Jvm.Cond.code ({ cls := "ClassDesk", name := "isWithin", desc := "(III)Z" } : Jvm.MethodName) prog_1_method_27_code (3 : Nat) (Option.some Jvm.ClassFile.FieldType.boolean)) ∈ am_G := am_in (am_ck1 35 rfl) rfl
theorem gw_1_36 : (Jvm.Cond.methodLink "ClassDesk" (72 : Nat) ({ cls := "ClassDesk$Classes", name := "mayBeSupers", desc := "(III)Z" } : Jvm.MethodName)) ∈ am_G := am_in (am_ck1 36 rfl) rfl
theorem gw_1_37 : (Jvm.Cond.static ({ cls := "ClassDesk$Classes", name := "mayBeSupers", desc := "(III)Z" } : Jvm.MethodName)) ∈ am_G := am_in (am_ck1 37 rfl) rfl
theorem gw_1_38 : (Jvm.Cond.code ({ cls := "ClassDesk$Classes", name := "mayBeSupers", desc := "(III)Z" } : Jvm.MethodName) prog_3_method_2_code (3 : Nat) (Option.some Jvm.ClassFile.FieldType.boolean)) ∈ am_G := am_in (am_ck1 38 rfl) rfl
theorem gw_1_40 : (Jvm.Cond.methodLink "ClassDesk" (75 : Nat) ({ cls := "ClassDesk$Classes", name := "settle", desc := "(IIII)I" } : Jvm.MethodName)) ∈ am_G := am_in (am_ck1 40 rfl) rfl
theorem gw_1_41 : (Jvm.Cond.instanceMethod ({ cls := "ClassDesk$Classes", name := "settle", desc := "(IIII)I" } : Jvm.MethodName)) ∈ am_G := am_in (am_ck1 41 rfl) rfl
theorem gw_1_42 : (Jvm.Cond.selects "ClassDesk$Classes" ({ cls := "ClassDesk$Classes", name := "settle", desc := "(IIII)I" } : Jvm.MethodName) ({ cls := "ClassDesk$Classes", name := "settle", desc := "(IIII)I" } : Jvm.MethodName)) ∈ am_G := am_in (am_ck1 42 rfl) rfl
theorem gw_1_43 : (Jvm.Cond.code ({ cls := "ClassDesk$Classes", name := "settle", desc := "(IIII)I" } : Jvm.MethodName) prog_3_method_5_code (8 : Nat) (Option.some Jvm.ClassFile.FieldType.int)) ∈ am_G := am_in (am_ck1 43 rfl) rfl
theorem gw_1_44 : (Jvm.Cond.methodLink "ClassDesk$Classes" (41 : Nat) ({ cls := "ClassDesk$Classes", name := "mayBeNamed", desc := "(II)Z" } : Jvm.MethodName)) ∈ am_G := am_in (am_ck1 44 rfl) rfl
theorem gw_1_46 : (Jvm.Cond.instanceMethod ({ cls := "ClassDesk$Classes", name := "mayBeNamed", desc := "(II)Z" } : Jvm.MethodName)) ∈ am_G := am_in (am_ck1 46 rfl) rfl
theorem gw_1_47 : (Jvm.Cond.code ({ cls := "ClassDesk$Classes", name := "mayBeNamed", desc := "(II)Z" } : Jvm.MethodName) prog_3_method_6_code (3 : Nat) (Option.some Jvm.ClassFile.FieldType.boolean)) ∈ am_G := am_in (am_ck1 47 rfl) rfl
theorem gw_1_48 : (Jvm.Cond.methodLink "ClassDesk$Classes" (60 : Nat) ({ cls := "ClassDesk$Classes", name := "isThere", desc := "(I)Z" } : Jvm.MethodName)) ∈ am_G := am_in (am_ck1 48 rfl) rfl
theorem gw_1_49 : (Jvm.Cond.instanceMethod ({ cls := "ClassDesk$Classes", name := "isThere", desc := "(I)Z" } : Jvm.MethodName)) ∈ am_G := am_in (am_ck1 49 rfl) rfl
theorem gw_1_50 : (Jvm.Cond.selects "ClassDesk$Classes" ({ cls := "ClassDesk$Classes", name := "isThere", desc := "(I)Z" } : Jvm.MethodName) ({ cls := "ClassDesk$Classes", name := "isThere", desc := "(I)Z" } : Jvm.MethodName)) ∈ am_G := am_in (am_ck1 50 rfl) rfl
theorem gw_1_51 : (Jvm.Cond.code ({ cls := "ClassDesk$Classes", name := "isThere", desc := "(I)Z" } : Jvm.MethodName) prog_3_method_4_code (2 : Nat) (Option.some Jvm.ClassFile.FieldType.boolean)) ∈ am_G := am_in (am_ck1 51 rfl) rfl
theorem gw_1_52 : (Jvm.Cond.methodLink "ClassDesk$Classes" (45 : Nat) ({ cls := "ClassDesk$Classes", name := "isBelow", desc := "(II)Z" } : Jvm.MethodName)) ∈ am_G := am_in (am_ck1 52 rfl) rfl
theorem gw_1_54 : (Jvm.Cond.instanceMethod ({ cls := "ClassDesk$Classes", name := "isBelow", desc := "(II)Z" } : Jvm.MethodName)) ∈ am_G := am_in (am_ck1 54 rfl) rfl
theorem gw_1_55 : (Jvm.Cond.code ({ cls := "ClassDesk$Classes", name := "isBelow", desc := "(II)Z" } : Jvm.MethodName) prog_3_method_10_code (3 : Nat) (Option.some Jvm.ClassFile.FieldType.boolean)) ∈ am_G := am_in (am_ck1 55 rfl) rfl
theorem gw_1_56 : (Jvm.Cond.methodLink "ClassDesk$Classes" (73 : Nat) ({ cls := "ClassDesk$Classes", name := "placeOf", desc := "(II)I" } : Jvm.MethodName)) ∈ am_G := am_in (am_ck1 56 rfl) rfl
theorem gw_1_57 : (Jvm.Cond.instanceMethod ({ cls := "ClassDesk$Classes", name := "placeOf", desc := "(II)I" } : Jvm.MethodName)) ∈ am_G := am_in (am_ck1 57 rfl) rfl
theorem gw_1_58 : (Jvm.Cond.selects "ClassDesk$Classes" ({ cls := "ClassDesk$Classes", name := "placeOf", desc := "(II)I" } : Jvm.MethodName) ({ cls := "ClassDesk$Classes", name := "placeOf", desc := "(II)I" } : Jvm.MethodName)) ∈ am_G := am_in (am_ck1 58 rfl) rfl
theorem gw_1_59 : (Jvm.Cond.code ({ cls := "ClassDesk$Classes", name := "placeOf", desc := "(II)I" } : Jvm.MethodName) prog_3_method_18_code (4 : Nat) (Option.some Jvm.ClassFile.FieldType.int)) ∈ am_G := am_in (am_ck1 59 rfl) rfl
theorem gw_1_60 : (Jvm.Cond.methodLink "ClassDesk$Classes" (48 : Nat) ({ cls := "ClassDesk$Classes", name := "setSupers", desc := "(IIII)V" } : Jvm.MethodName)) ∈ am_G := am_in (am_ck1 60 rfl) rfl
theorem gw_1_62 : (Jvm.Cond.instanceMethod ({ cls := "ClassDesk$Classes", name := "setSupers", desc := "(IIII)V" } : Jvm.MethodName)) ∈ am_G := am_in (am_ck1 62 rfl) rfl
theorem gw_1_63 : (Jvm.Cond.code ({ cls := "ClassDesk$Classes", name := "setSupers", desc := "(IIII)V" } : Jvm.MethodName) prog_3_method_7_code (5 : Nat) (Option.none : Option Jvm.ClassFile.FieldType)) ∈ am_G := am_in (am_ck1 63 rfl) rfl
theorem gw_1_64 : (Jvm.Cond.methodLink "ClassDesk$Classes" (52 : Nat) ({ cls := "ClassDesk$Classes", name := "allHavePrecedence", desc := "(I)Z" } : Jvm.MethodName)) ∈ am_G := am_in (am_ck1 64 rfl) rfl
theorem gw_1_66 : (Jvm.Cond.instanceMethod ({ cls := "ClassDesk$Classes", name := "allHavePrecedence", desc := "(I)Z" } : Jvm.MethodName)) ∈ am_G := am_in (am_ck1 66 rfl) rfl
theorem gw_1_67 : (Jvm.Cond.code ({ cls := "ClassDesk$Classes", name := "allHavePrecedence", desc := "(I)Z" } : Jvm.MethodName) prog_3_method_8_code (3 : Nat) (Option.some Jvm.ClassFile.FieldType.boolean)) ∈ am_G := am_in (am_ck1 67 rfl) rfl
theorem gw_1_68 : (Jvm.Cond.methodLink "ClassDesk$Classes" (63 : Nat) ({ cls := "ClassDesk$Classes", name := "draw", desc := "(I)I" } : Jvm.MethodName)) ∈ am_G := am_in (am_ck1 68 rfl) rfl
theorem gw_1_70 : (Jvm.Cond.instanceMethod ({ cls := "ClassDesk$Classes", name := "draw", desc := "(I)I" } : Jvm.MethodName)) ∈ am_G := am_in (am_ck1 70 rfl) rfl
theorem gw_1_71 : (Jvm.Cond.code ({ cls := "ClassDesk$Classes", name := "draw", desc := "(I)I" } : Jvm.MethodName) prog_3_method_11_code (6 : Nat) (Option.some Jvm.ClassFile.FieldType.int)) ∈ am_G := am_in (am_ck1 71 rfl) rfl
theorem gw_1_72 : (Jvm.Cond.methodLink "ClassDesk$Classes" (77 : Nat) ({ cls := "ClassDesk$Classes", name := "allAbove", desc := "(I)I" } : Jvm.MethodName)) ∈ am_G := am_in (am_ck1 72 rfl) rfl
theorem gw_1_74 : (Jvm.Cond.instanceMethod ({ cls := "ClassDesk$Classes", name := "allAbove", desc := "(I)I" } : Jvm.MethodName)) ∈ am_G := am_in (am_ck1 74 rfl) rfl
theorem gw_1_75 : (Jvm.Cond.code ({ cls := "ClassDesk$Classes", name := "allAbove", desc := "(I)I" } : Jvm.MethodName) prog_3_method_12_code (6 : Nat) (Option.some Jvm.ClassFile.FieldType.int)) ∈ am_G := am_in (am_ck1 75 rfl) rfl
theorem gw_1_77 : (Jvm.Cond.static ({ cls := "ClassDesk", name := "isIn", desc := "(II)Z" } : Jvm.MethodName)) ∈ am_G := am_in (am_ck1 77 rfl) rfl
theorem gw_1_78 : (Jvm.Cond.code ({ cls := "ClassDesk", name := "isIn", desc := "(II)Z" } : Jvm.MethodName) prog_1_method_29_code (2 : Nat) (Option.some Jvm.ClassFile.FieldType.boolean)) ∈ am_G := am_in (am_ck1 78 rfl) rfl
theorem gw_1_79 : (Jvm.Cond.methodLink "ClassDesk$Classes" (89 : Nat) ({ cls := "ClassDesk$Classes", name := "directlyAbove", desc := "(I)I" } : Jvm.MethodName)) ∈ am_G := am_in (am_ck1 79 rfl) rfl
theorem gw_1_81 : (Jvm.Cond.instanceMethod ({ cls := "ClassDesk$Classes", name := "directlyAbove", desc := "(I)I" } : Jvm.MethodName)) ∈ am_G := am_in (am_ck1 81 rfl) rfl
theorem gw_1_82 : (Jvm.Cond.code ({ cls := "ClassDesk$Classes", name := "directlyAbove", desc := "(I)I" } : Jvm.MethodName) prog_3_method_13_code (4 : Nat) (Option.some Jvm.ClassFile.FieldType.int)) ∈ am_G := am_in (am_ck1 82 rfl) rfl
theorem gw_1_83 : (Jvm.Cond.methodLink "ClassDesk$Classes" (80 : Nat) ({ cls := "ClassDesk$Classes", name := "noteWhatStandsBefore", desc := "(I)V" } : Jvm.MethodName)) ∈ am_G := am_in (am_ck1 83 rfl) rfl
theorem gw_1_85 : (Jvm.Cond.instanceMethod ({ cls := "ClassDesk$Classes", name := "noteWhatStandsBefore", desc := "(I)V" } : Jvm.MethodName)) ∈ am_G := am_in (am_ck1 85 rfl) rfl
theorem gw_1_86 : (Jvm.Cond.code ({ cls := "ClassDesk$Classes", name := "noteWhatStandsBefore", desc := "(I)V" } : Jvm.MethodName) prog_3_method_14_code (3 : Nat) (Option.none : Option Jvm.ClassFile.FieldType)) ∈ am_G := am_in (am_ck1 86 rfl) rfl
theorem gw_1_87 : (Jvm.Cond.methodLink "ClassDesk$Classes" (92 : Nat) ({ cls := "ClassDesk$Classes", name := "noteWhatStandsBeforeSupers", desc := "(I)V" } : Jvm.MethodName)) ∈ am_G := am_in (am_ck1 87 rfl) rfl
theorem gw_1_89 : (Jvm.Cond.instanceMethod ({ cls := "ClassDesk$Classes", name := "noteWhatStandsBeforeSupers", desc := "(I)V" } : Jvm.MethodName)) ∈ am_G := am_in (am_ck1 89 rfl) rfl
theorem gw_1_90 : (Jvm.Cond.code ({ cls := "ClassDesk$Classes", name := "noteWhatStandsBeforeSupers", desc := "(I)V" } : Jvm.MethodName) prog_3_method_15_code (5 : Nat) (Option.none : Option Jvm.ClassFile.FieldType)) ∈ am_G := am_in (am_ck1 90 rfl) rfl
theorem gw_1_91 : (Jvm.Cond.methodLink "ClassDesk$Classes" (83 : Nat) ({ cls := "ClassDesk$Classes", name := "nextInDraft", desc := "(II)I" } : Jvm.MethodName)) ∈ am_G := am_in (am_ck1 91 rfl) rfl
theorem gw_1_93 : (Jvm.Cond.instanceMethod ({ cls := "ClassDesk$Classes", name := "nextInDraft", desc := "(II)I" } : Jvm.MethodName)) ∈ am_G := am_in (am_ck1 93 rfl) rfl
theorem gw_1_94 : (Jvm.Cond.code ({ cls := "ClassDesk$Classes", name := "nextInDraft", desc := "(II)I" } : Jvm.MethodName) prog_3_method_16_code (7 : Nat) (Option.some Jvm.ClassFile.FieldType.int)) ∈ am_G := am_in (am_ck1 94 rfl) rfl
theorem gw_1_95 : (Jvm.Cond.methodLink "ClassDesk$Classes" (56 : Nat) ({ cls := "ClassDesk$Classes", name := "renewRows", desc := "(I)V" } : Jvm.MethodName)) ∈ am_G := am_in (am_ck1 95 rfl) rfl
theorem gw_1_97 : (Jvm.Cond.instanceMethod ({ cls := "ClassDesk$Classes", name := "renewRows", desc := "(I)V" } : Jvm.MethodName)) ∈ am_G := am_in (am_ck1 97 rfl) rfl
theorem gw_1_98 : (Jvm.Cond.code ({ cls := "ClassDesk$Classes", name := "renewRows", desc := "(I)V" } : Jvm.MethodName) prog_3_method_9_code (3 : Nat) (Option.none : Option Jvm.ClassFile.FieldType)) ∈ am_G := am_in (am_ck1 98 rfl) rfl
theorem gw_1_99 : (Jvm.Cond.methodLink "ClassDesk$Classes" (67 : Nat) ({ cls := "java/lang/System", name := "arraycopy", desc := "(Ljava/lang/Object;ILjava/lang/Object;II)V" } : Jvm.MethodName)) ∈ am_G := am_in (am_ck1 99 rfl) rfl
theorem gw_1_100 : (Jvm.Cond.static ({ cls := "java/lang/System", name := "arraycopy", desc := "(Ljava/lang/Object;ILjava/lang/Object;II)V" } : Jvm.MethodName)) ∈ am_G := am_in (am_ck1 100 rfl) rfl
theorem gw_1_101 : (Jvm.Cond.native ({ cls := "java/lang/System", name := "arraycopy", desc := "(Ljava/lang/Object;ILjava/lang/Object;II)V" } : Jvm.MethodName)) ∈ am_G := am_in (am_ck1 101 rfl) rfl
theorem gw_1_102 : (Jvm.Cond.methodLink "ClassDesk" (79 : Nat) ({ cls := "ClassDesk$Keeper", name := "forgetAll", desc := "()V" } : Jvm.MethodName)) ∈ am_G := am_in (am_ck1 102 rfl) rfl
theorem gw_1_103 : (Jvm.Cond.instanceMethod ({ cls := "ClassDesk$Keeper", name := "forgetAll", desc := "()V" } : Jvm.MethodName)) ∈ am_G := am_in (am_ck1 103 rfl) rfl
theorem gw_1_104 : (Jvm.Cond.selects "ClassDesk$Keeper" ({ cls := "ClassDesk$Keeper", name := "forgetAll", desc := "()V" } : Jvm.MethodName) ({ cls := "ClassDesk$Keeper", name := "forgetAll", desc := "()V" } : Jvm.MethodName)) ∈ am_G := am_in (am_ck1 104 rfl) rfl
theorem gw_1_105 : (Jvm.Cond.code ({ cls := "ClassDesk$Keeper", name := "forgetAll", desc := "()V" } : Jvm.MethodName) prog_7_method_5_code (2 : Nat) (Option.none : Option Jvm.ClassFile.FieldType)) ∈ am_G := am_in (am_ck1 105 rfl) rfl
theorem gw_1_106 : (Jvm.Cond.methodLink "ClassDesk$Keeper" (43 : Nat) ({ cls := "ClassDesk$Keeper", name := "forget", desc := "(I)V" } : Jvm.MethodName)) ∈ am_G := am_in (am_ck1 106 rfl) rfl
theorem gw_1_107 : (Jvm.Cond.instanceMethod ({ cls := "ClassDesk$Keeper", name := "forget", desc := "(I)V" } : Jvm.MethodName)) ∈ am_G := am_in (am_ck1 107 rfl) rfl
theorem gw_1_108 : (Jvm.Cond.selects "ClassDesk$Keeper" ({ cls := "ClassDesk$Keeper", name := "forget", desc := "(I)V" } : Jvm.MethodName) ({ cls := "ClassDesk$Keeper", name := "forget", desc := "(I)V" } : Jvm.MethodName)) ∈ am_G := am_in (am_ck1 108 rfl) rfl
theorem gw_1_109 : (Jvm.Cond.code ({ cls := "ClassDesk$Keeper", name := "forget", desc := "(I)V" } : Jvm.MethodName) prog_7_method_4_code (2 : Nat) (Option.none : Option Jvm.ClassFile.FieldType)) ∈ am_G := am_in (am_ck1 109 rfl) rfl
theorem gw_1_110 : (Jvm.Cond.methodLink "ClassDeskLaw" (18 : Nat) ({ cls := "ClassDesk", name := "slot", desc := "(IIII)I" } : Jvm.MethodName)) ∈ am_G := am_in (am_ck1 110 rfl) rfl
theorem gw_1_111 : (Jvm.Cond.instanceMethod ({ cls := "ClassDesk", name := "slot", desc := "(IIII)I" } : Jvm.MethodName)) ∈ am_G := am_in (am_ck1 111 rfl) rfl
theorem gw_1_112 : (Jvm.Cond.selects "ClassDesk" ({ cls := "ClassDesk", name := "slot", desc := "(IIII)I" } : Jvm.MethodName) ({ cls := "ClassDesk", name := "slot", desc := "(IIII)I" } : Jvm.MethodName)) ∈ am_G := am_in (am_ck1 112 rfl) rfl
theorem gw_1_113 : (Jvm.Cond.code ({ cls := "ClassDesk", name := "slot", desc := "(IIII)I" } : Jvm.MethodName) prog_1_method_3_code (5 : Nat) (Option.some Jvm.ClassFile.FieldType.int)) ∈ am_G := am_in (am_ck1 113 rfl) rfl
theorem gw_1_114 : (Jvm.Cond.methodLink "ClassDesk" (82 : Nat) ({ cls := "ClassDesk", name := "isName", desc := "(I)Z" } : Jvm.MethodName)) ∈ am_G := am_in (am_ck1 114 rfl) rfl
theorem gw_1_115 : (Jvm.Cond.static ({ cls := "ClassDesk", name := "isName", desc := "(I)Z" } : Jvm.MethodName)) ∈ am_G := am_in (am_ck1 115 rfl) rfl
theorem gw_1_116 : (Jvm.Cond.code ({ cls := "ClassDesk", name := "isName", desc := "(I)Z" } : Jvm.MethodName) prog_1_method_24_code (1 : Nat) (Option.some Jvm.ClassFile.FieldType.boolean)) ∈ am_G := am_in (am_ck1 116 rfl) rfl
theorem gw_1_117 : (Jvm.Cond.methodLink "ClassDesk" (86 : Nat) ({ cls := "ClassDesk$Classes", name := "isThere", desc := "(I)Z" } : Jvm.MethodName)) ∈ am_G := am_in (am_ck1 117 rfl) rfl
theorem gw_1_118 : (Jvm.Cond.methodLink "ClassDesk" (89 : Nat) ({ cls := "ClassDesk$Classes", name := "setSlot", desc := "(IIII)V" } : Jvm.MethodName)) ∈ am_G := am_in (am_ck1 118 rfl) rfl
theorem gw_1_119 : (Jvm.Cond.instanceMethod ({ cls := "ClassDesk$Classes", name := "setSlot", desc := "(IIII)V" } : Jvm.MethodName)) ∈ am_G := am_in (am_ck1 119 rfl) rfl
theorem gw_1_120 : (Jvm.Cond.selects "ClassDesk$Classes" ({ cls := "ClassDesk$Classes", name := "setSlot", desc := "(IIII)V" } : Jvm.MethodName) ({ cls := "ClassDesk$Classes", name := "setSlot", desc := "(IIII)V" } : Jvm.MethodName)) ∈ am_G := am_in (am_ck1 120 rfl) rfl
theorem gw_1_121 : (Jvm.Cond.code ({ cls := "ClassDesk$Classes", name := "setSlot", desc := "(IIII)V" } : Jvm.MethodName) prog_3_method_19_code (5 : Nat) (Option.none : Option Jvm.ClassFile.FieldType)) ∈ am_G := am_in (am_ck1 121 rfl) rfl
theorem gw_1_122 : (Jvm.Cond.methodLink "ClassDeskLaw" (22 : Nat) ({ cls := "ClassDesk", name := "make", desc := "(I)I" } : Jvm.MethodName)) ∈ am_G := am_in (am_ck1 122 rfl) rfl
theorem gw_1_123 : (Jvm.Cond.instanceMethod ({ cls := "ClassDesk", name := "make", desc := "(I)I" } : Jvm.MethodName)) ∈ am_G := am_in (am_ck1 123 rfl) rfl
theorem gw_1_124 : (Jvm.Cond.selects "ClassDesk" ({ cls := "ClassDesk", name := "make", desc := "(I)I" } : Jvm.MethodName) ({ cls := "ClassDesk", name := "make", desc := "(I)I" } : Jvm.MethodName)) ∈ am_G := am_in (am_ck1 124 rfl) rfl
theorem gw_1_125 : (Jvm.Cond.code ({ cls := "ClassDesk", name := "make", desc := "(I)I" } : Jvm.MethodName) prog_1_method_4_code (2 : Nat) (Option.some Jvm.ClassFile.FieldType.int)) ∈ am_G := am_in (am_ck1 125 rfl) rfl
theorem gw_1_126 : (Jvm.Cond.methodLink "ClassDesk" (93 : Nat) ({ cls := "ClassDesk$Instances", name := "create", desc := "(I)I" } : Jvm.MethodName)) ∈ am_G := am_in (am_ck1 126 rfl) rfl
theorem gw_1_127 : (Jvm.Cond.instanceMethod ({ cls := "ClassDesk$Instances", name := "create", desc := "(I)I" } : Jvm.MethodName)) ∈ am_G := am_in (am_ck1 127 rfl) rfl
theorem gw_1_128 : (Jvm.Cond.selects "ClassDesk$Instances" ({ cls := "ClassDesk$Instances", name := "create", desc := "(I)I" } : Jvm.MethodName) ({ cls := "ClassDesk$Instances", name := "create", desc := "(I)I" } : Jvm.MethodName)) ∈ am_G := am_in (am_ck1 128 rfl) rfl
theorem gw_1_129 : (Jvm.Cond.code ({ cls := "ClassDesk$Instances", name := "create", desc := "(I)I" } : Jvm.MethodName) prog_6_method_8_code (3 : Nat) (Option.some Jvm.ClassFile.FieldType.int)) ∈ am_G := am_in (am_ck1 129 rfl) rfl
theorem gw_1_130 : (Jvm.Cond.methodLink "ClassDesk$Instances" (39 : Nat) ({ cls := "ClassDesk$Instances", name := "touch", desc := "(I)I" } : Jvm.MethodName)) ∈ am_G := am_in (am_ck1 130 rfl) rfl
theorem gw_1_132 : (Jvm.Cond.instanceMethod ({ cls := "ClassDesk$Instances", name := "touch", desc := "(I)I" } : Jvm.MethodName)) ∈ am_G := am_in (am_ck1 132 rfl) rfl
theorem gw_1_133 : (Jvm.Cond.code ({ cls := "ClassDesk$Instances", name := "touch", desc := "(I)I" } : Jvm.MethodName) prog_6_method_10_code (6 : Nat) (Option.some Jvm.ClassFile.FieldType.int)) ∈ am_G := am_in (am_ck1 133 rfl) rfl
theorem gw_1_134 : (Jvm.Cond.methodLink "ClassDesk$Instances" (43 : Nat) ({ cls := "ClassDesk$Classes", name := "holder", desc := "(II)I" } : Jvm.MethodName)) ∈ am_G := am_in (am_ck1 134 rfl) rfl
theorem gw_1_135 : (Jvm.Cond.instanceMethod ({ cls := "ClassDesk$Classes", name := "holder", desc := "(II)I" } : Jvm.MethodName)) ∈ am_G := am_in (am_ck1 135 rfl) rfl
theorem gw_1_136 : (Jvm.Cond.selects "ClassDesk$Classes" ({ cls := "ClassDesk$Classes", name := "holder", desc := "(II)I" } : Jvm.MethodName) ({ cls := "ClassDesk$Classes", name := "holder", desc := "(II)I" } : Jvm.MethodName)) ∈ am_G := am_in (am_ck1 136 rfl) rfl
theorem gw_1_137 : (Jvm.Cond.code ({ cls := "ClassDesk$Classes", name := "holder", desc := "(II)I" } : Jvm.MethodName) prog_3_method_20_code (5 : Nat) (Option.some Jvm.ClassFile.FieldType.int)) ∈ am_G := am_in (am_ck1 137 rfl) rfl
theorem gw_1_138 : (Jvm.Cond.methodLink "ClassDesk$Instances" (49 : Nat) ({ cls := "ClassDesk$Classes", name := "isShared", desc := "(II)Z" } : Jvm.MethodName)) ∈ am_G := am_in (am_ck1 138 rfl) rfl
theorem gw_1_139 : (Jvm.Cond.instanceMethod ({ cls := "ClassDesk$Classes", name := "isShared", desc := "(II)Z" } : Jvm.MethodName)) ∈ am_G := am_in (am_ck1 139 rfl) rfl
theorem gw_1_140 : (Jvm.Cond.selects "ClassDesk$Classes" ({ cls := "ClassDesk$Classes", name := "isShared", desc := "(II)Z" } : Jvm.MethodName) ({ cls := "ClassDesk$Classes", name := "isShared", desc := "(II)Z" } : Jvm.MethodName)) ∈ am_G := am_in (am_ck1 140 rfl) rfl
theorem gw_1_141 : (Jvm.Cond.code ({ cls := "ClassDesk$Classes", name := "isShared", desc := "(II)Z" } : Jvm.MethodName) prog_3_method_21_code (3 : Nat) (Option.some Jvm.ClassFile.FieldType.boolean)) ∈ am_G := am_in (am_ck1 141 rfl) rfl
theorem gw_1_143 : (Jvm.Cond.methodLink "ClassDesk$Instances" (56 : Nat) ({ cls := "ClassDesk$Classes", name := "hasInitial", desc := "(II)Z" } : Jvm.MethodName)) ∈ am_G := am_in (am_ck1 143 rfl) rfl
theorem gw_1_144 : (Jvm.Cond.instanceMethod ({ cls := "ClassDesk$Classes", name := "hasInitial", desc := "(II)Z" } : Jvm.MethodName)) ∈ am_G := am_in (am_ck1 144 rfl) rfl
theorem gw_1_145 : (Jvm.Cond.selects "ClassDesk$Classes" ({ cls := "ClassDesk$Classes", name := "hasInitial", desc := "(II)Z" } : Jvm.MethodName) ({ cls := "ClassDesk$Classes", name := "hasInitial", desc := "(II)Z" } : Jvm.MethodName)) ∈ am_G := am_in (am_ck1 145 rfl) rfl
theorem gw_1_146 : (Jvm.Cond.code ({ cls := "ClassDesk$Classes", name := "hasInitial", desc := "(II)Z" } : Jvm.MethodName) prog_3_method_22_code (3 : Nat) (Option.some Jvm.ClassFile.FieldType.boolean)) ∈ am_G := am_in (am_ck1 146 rfl) rfl
theorem gw_1_147 : (Jvm.Cond.methodLink "ClassDesk$Instances" (59 : Nat) ({ cls := "ClassDesk$Classes", name := "slotIntOf", desc := "(II)I" } : Jvm.MethodName)) ∈ am_G := am_in (am_ck1 147 rfl) rfl
theorem gw_1_148 : (Jvm.Cond.instanceMethod ({ cls := "ClassDesk$Classes", name := "slotIntOf", desc := "(II)I" } : Jvm.MethodName)) ∈ am_G := am_in (am_ck1 148 rfl) rfl
theorem gw_1_149 : (Jvm.Cond.selects "ClassDesk$Classes" ({ cls := "ClassDesk$Classes", name := "slotIntOf", desc := "(II)I" } : Jvm.MethodName) ({ cls := "ClassDesk$Classes", name := "slotIntOf", desc := "(II)I" } : Jvm.MethodName)) ∈ am_G := am_in (am_ck1 149 rfl) rfl
theorem gw_1_150 : (Jvm.Cond.code ({ cls := "ClassDesk$Classes", name := "slotIntOf", desc := "(II)I" } : Jvm.MethodName) prog_3_method_23_code (3 : Nat) (Option.some Jvm.ClassFile.FieldType.int)) ∈ am_G := am_in (am_ck1 150 rfl) rfl
theorem gw_1_151 : (Jvm.Cond.methodLink "ClassDesk$Instances" (62 : Nat) ({ cls := "ClassDesk$Instances", name := "setValue", desc := "(III)V" } : Jvm.MethodName)) ∈ am_G := am_in (am_ck1 151 rfl) rfl
theorem gw_1_153 : (Jvm.Cond.instanceMethod ({ cls := "ClassDesk$Instances", name := "setValue", desc := "(III)V" } : Jvm.MethodName)) ∈ am_G := am_in (am_ck1 153 rfl) rfl
theorem gw_1_154 : (Jvm.Cond.code ({ cls := "ClassDesk$Instances", name := "setValue", desc := "(III)V" } : Jvm.MethodName) prog_6_method_11_code (4 : Nat) (Option.none : Option Jvm.ClassFile.FieldType)) ∈ am_G := am_in (am_ck1 154 rfl) rfl
theorem gw_1_155 : (Jvm.Cond.methodLink "ClassDeskLaw" (27 : Nat) ({ cls := "ClassDesk", name := "become", desc := "(II)I" } : Jvm.MethodName)) ∈ am_G := am_in (am_ck1 155 rfl) rfl
theorem gw_1_156 : (Jvm.Cond.instanceMethod ({ cls := "ClassDesk", name := "become", desc := "(II)I" } : Jvm.MethodName)) ∈ am_G := am_in (am_ck1 156 rfl) rfl
theorem gw_1_157 : (Jvm.Cond.selects "ClassDesk" ({ cls := "ClassDesk", name := "become", desc := "(II)I" } : Jvm.MethodName) ({ cls := "ClassDesk", name := "become", desc := "(II)I" } : Jvm.MethodName)) ∈ am_G := am_in (am_ck1 157 rfl) rfl
theorem gw_1_158 : (Jvm.Cond.code ({ cls := "ClassDesk", name := "become", desc := "(II)I" } : Jvm.MethodName) prog_1_method_5_code (3 : Nat) (Option.some Jvm.ClassFile.FieldType.int)) ∈ am_G := am_in (am_ck1 158 rfl) rfl
theorem gw_1_159 : (Jvm.Cond.methodLink "ClassDesk" (97 : Nat) ({ cls := "ClassDesk$Instances", name := "isThere", desc := "(I)Z" } : Jvm.MethodName)) ∈ am_G := am_in (am_ck1 159 rfl) rfl
theorem gw_1_160 : (Jvm.Cond.instanceMethod ({ cls := "ClassDesk$Instances", name := "isThere", desc := "(I)Z" } : Jvm.MethodName)) ∈ am_G := am_in (am_ck1 160 rfl) rfl
theorem gw_1_161 : (Jvm.Cond.selects "ClassDesk$Instances" ({ cls := "ClassDesk$Instances", name := "isThere", desc := "(I)Z" } : Jvm.MethodName) ({ cls := "ClassDesk$Instances", name := "isThere", desc := "(I)Z" } : Jvm.MethodName)) ∈ am_G := am_in (am_ck1 161 rfl) rfl
theorem gw_1_162 : (Jvm.Cond.code ({ cls := "ClassDesk$Instances", name := "isThere", desc := "(I)Z" } : Jvm.MethodName) prog_6_method_4_code (2 : Nat) (Option.some Jvm.ClassFile.FieldType.boolean)) ∈ am_G := am_in (am_ck1 162 rfl) rfl
theorem gw_1_164 : (Jvm.Cond.methodLink "ClassDesk" (98 : Nat) ({ cls := "ClassDesk$Instances", name := "changeClass", desc := "(II)V" } : Jvm.MethodName)) ∈ am_G := am_in (am_ck1 164 rfl) rfl
theorem gw_1_165 : (Jvm.Cond.instanceMethod ({ cls := "ClassDesk$Instances", name := "changeClass", desc := "(II)V" } : Jvm.MethodName)) ∈ am_G := am_in (am_ck1 165 rfl) rfl
theorem gw_1_166 : (Jvm.Cond.selects "ClassDesk$Instances" ({ cls := "ClassDesk$Instances", name := "changeClass", desc := "(II)V" } : Jvm.MethodName) ({ cls := "ClassDesk$Instances", name := "changeClass", desc := "(II)V" } : Jvm.MethodName)) ∈ am_G := am_in (am_ck1 166 rfl) rfl
theorem gw_1_167 : (Jvm.Cond.code ({ cls := "ClassDesk$Instances", name := "changeClass", desc := "(II)V" } : Jvm.MethodName) prog_6_method_9_code (3 : Nat) (Option.none : Option Jvm.ClassFile.FieldType)) ∈ am_G := am_in (am_ck1 167 rfl) rfl
theorem gw_1_168 : (Jvm.Cond.methodLink "ClassDeskLaw" (32 : Nat) ({ cls := "ClassDesk", name := "get", desc := "(II)J" } : Jvm.MethodName)) ∈ am_G := am_in (am_ck1 168 rfl) rfl
theorem gw_1_169 : (Jvm.Cond.instanceMethod ({ cls := "ClassDesk", name := "get", desc := "(II)J" } : Jvm.MethodName)) ∈ am_G := am_in (am_ck1 169 rfl) rfl
theorem gw_1_170 : (Jvm.Cond.selects "ClassDesk" ({ cls := "ClassDesk", name := "get", desc := "(II)J" } : Jvm.MethodName) ({ cls := "ClassDesk", name := "get", desc := "(II)J" } : Jvm.MethodName)) ∈ am_G := am_in (am_ck1 170 rfl) rfl
theorem gw_1_171 : (Jvm.Cond.code ({ cls := "ClassDesk", name := "get", desc := "(II)J" } : Jvm.MethodName) prog_1_method_6_code (4 : Nat) (Option.some Jvm.ClassFile.FieldType.long)) ∈ am_G := am_in (am_ck1 171 rfl) rfl
theorem gw_1_172 : (Jvm.Cond.methodLink "ClassDesk" (102 : Nat) ({ cls := "ClassDesk", name := "refusalOfSlot", desc := "(II)I" } : Jvm.MethodName)) ∈ am_G := am_in (am_ck1 172 rfl) rfl
theorem gw_1_174 : (Jvm.Cond.instanceMethod ({ cls := "ClassDesk", name := "refusalOfSlot", desc := "(II)I" } : Jvm.MethodName)) ∈ am_G := am_in (am_ck1 174 rfl) rfl
theorem gw_1_175 : (Jvm.Cond.code ({ cls := "ClassDesk", name := "refusalOfSlot", desc := "(II)I" } : Jvm.MethodName) prog_1_method_20_code (3 : Nat) (Option.some Jvm.ClassFile.FieldType.int)) ∈ am_G := am_in (am_ck1 175 rfl) rfl
theorem gw_1_176 : (Jvm.Cond.constantLong "ClassDesk" (106 : Nat) (1099511627776 : Int64)) ∈ am_G := am_in (am_ck1 176 rfl) rfl
theorem gw_1_177 : (Jvm.Cond.methodLink "ClassDesk" (108 : Nat) ({ cls := "ClassDesk$Instances", name := "read", desc := "(II)J" } : Jvm.MethodName)) ∈ am_G := am_in (am_ck1 177 rfl) rfl
theorem gw_1_178 : (Jvm.Cond.instanceMethod ({ cls := "ClassDesk$Instances", name := "read", desc := "(II)J" } : Jvm.MethodName)) ∈ am_G := am_in (am_ck1 178 rfl) rfl
theorem gw_1_179 : (Jvm.Cond.selects "ClassDesk$Instances" ({ cls := "ClassDesk$Instances", name := "read", desc := "(II)J" } : Jvm.MethodName) ({ cls := "ClassDesk$Instances", name := "read", desc := "(II)J" } : Jvm.MethodName)) ∈ am_G := am_in (am_ck1 179 rfl) rfl
theorem gw_1_180 : (Jvm.Cond.code ({ cls := "ClassDesk$Instances", name := "read", desc := "(II)J" } : Jvm.MethodName) prog_6_method_12_code (4 : Nat) (Option.some Jvm.ClassFile.FieldType.long)) ∈ am_G := am_in (am_ck1 180 rfl) rfl
theorem gw_1_181 : (Jvm.Cond.constantLong "ClassDesk$Instances" (66 : Nat) (1099511627770 : Int64)) ∈ am_G := am_in (am_ck1 181 rfl) rfl
theorem gw_1_182 : (Jvm.Cond.constantLong "ClassDesk$Instances" (68 : Nat) (1099511627769 : Int64)) ∈ am_G := am_in (am_ck1 182 rfl) rfl
theorem gw_1_183 : (Jvm.Cond.methodLink "ClassDeskLaw" (37 : Nat) ({ cls := "ClassDesk", name := "put", desc := "(III)J" } : Jvm.MethodName)) ∈ am_G := am_in (am_ck1 183 rfl) rfl
theorem gw_1_184 : (Jvm.Cond.instanceMethod ({ cls := "ClassDesk", name := "put", desc := "(III)J" } : Jvm.MethodName)) ∈ am_G := am_in (am_ck1 184 rfl) rfl
theorem gw_1_185 : (Jvm.Cond.selects "ClassDesk" ({ cls := "ClassDesk", name := "put", desc := "(III)J" } : Jvm.MethodName) ({ cls := "ClassDesk", name := "put", desc := "(III)J" } : Jvm.MethodName)) ∈ am_G := am_in (am_ck1 185 rfl) rfl
theorem gw_1_186 : (Jvm.Cond.code ({ cls := "ClassDesk", name := "put", desc := "(III)J" } : Jvm.MethodName) prog_1_method_7_code (5 : Nat) (Option.some Jvm.ClassFile.FieldType.long)) ∈ am_G := am_in (am_ck1 186 rfl) rfl
theorem gw_1_187 : (Jvm.Cond.methodLink "ClassDesk" (112 : Nat) ({ cls := "ClassDesk$Instances", name := "write", desc := "(III)J" } : Jvm.MethodName)) ∈ am_G := am_in (am_ck1 187 rfl) rfl
theorem gw_1_188 : (Jvm.Cond.instanceMethod ({ cls := "ClassDesk$Instances", name := "write", desc := "(III)J" } : Jvm.MethodName)) ∈ am_G := am_in (am_ck1 188 rfl) rfl
theorem gw_1_189 : (Jvm.Cond.selects "ClassDesk$Instances" ({ cls := "ClassDesk$Instances", name := "write", desc := "(III)J" } : Jvm.MethodName) ({ cls := "ClassDesk$Instances", name := "write", desc := "(III)J" } : Jvm.MethodName)) ∈ am_G := am_in (am_ck1 189 rfl) rfl
theorem gw_1_190 : (Jvm.Cond.code ({ cls := "ClassDesk$Instances", name := "write", desc := "(III)J" } : Jvm.MethodName) prog_6_method_13_code (5 : Nat) (Option.some Jvm.ClassFile.FieldType.long)) ∈ am_G := am_in (am_ck1 190 rfl) rfl
theorem gw_1_191 : (Jvm.Cond.methodLink "ClassDesk$Instances" (70 : Nat) ({ cls := "ClassDesk$Classes", name := "setSlotInt", desc := "(III)V" } : Jvm.MethodName)) ∈ am_G := am_in (am_ck1 191 rfl) rfl
theorem gw_1_192 : (Jvm.Cond.instanceMethod ({ cls := "ClassDesk$Classes", name := "setSlotInt", desc := "(III)V" } : Jvm.MethodName)) ∈ am_G := am_in (am_ck1 192 rfl) rfl
theorem gw_1_193 : (Jvm.Cond.selects "ClassDesk$Classes" ({ cls := "ClassDesk$Classes", name := "setSlotInt", desc := "(III)V" } : Jvm.MethodName) ({ cls := "ClassDesk$Classes", name := "setSlotInt", desc := "(III)V" } : Jvm.MethodName)) ∈ am_G := am_in (am_ck1 193 rfl) rfl
theorem gw_1_194 : (Jvm.Cond.code ({ cls := "ClassDesk$Classes", name := "setSlotInt", desc := "(III)V" } : Jvm.MethodName) prog_3_method_24_code (4 : Nat) (Option.none : Option Jvm.ClassFile.FieldType)) ∈ am_G := am_in (am_ck1 194 rfl) rfl
theorem gw_1_195 : (Jvm.Cond.methodLink "ClassDeskLaw" (42 : Nat) ({ cls := "ClassDesk", name := "unbind", desc := "(II)J" } : Jvm.MethodName)) ∈ am_G := am_in (am_ck1 195 rfl) rfl
theorem gw_1_196 : (Jvm.Cond.instanceMethod ({ cls := "ClassDesk", name := "unbind", desc := "(II)J" } : Jvm.MethodName)) ∈ am_G := am_in (am_ck1 196 rfl) rfl
theorem gw_1_197 : (Jvm.Cond.selects "ClassDesk" ({ cls := "ClassDesk", name := "unbind", desc := "(II)J" } : Jvm.MethodName) ({ cls := "ClassDesk", name := "unbind", desc := "(II)J" } : Jvm.MethodName)) ∈ am_G := am_in (am_ck1 197 rfl) rfl
theorem gw_1_198 : (Jvm.Cond.code ({ cls := "ClassDesk", name := "unbind", desc := "(II)J" } : Jvm.MethodName) prog_1_method_8_code (4 : Nat) (Option.some Jvm.ClassFile.FieldType.long)) ∈ am_G := am_in (am_ck1 198 rfl) rfl
theorem gw_1_199 : (Jvm.Cond.methodLink "ClassDesk" (116 : Nat) ({ cls := "ClassDesk$Instances", name := "dropValue", desc := "(II)J" } : Jvm.MethodName)) ∈ am_G := am_in (am_ck1 199 rfl) rfl
theorem gw_1_200 : (Jvm.Cond.instanceMethod ({ cls := "ClassDesk$Instances", name := "dropValue", desc := "(II)J" } : Jvm.MethodName)) ∈ am_G := am_in (am_ck1 200 rfl) rfl
theorem gw_1_201 : (Jvm.Cond.selects "ClassDesk$Instances" ({ cls := "ClassDesk$Instances", name := "dropValue", desc := "(II)J" } : Jvm.MethodName) ({ cls := "ClassDesk$Instances", name := "dropValue", desc := "(II)J" } : Jvm.MethodName)) ∈ am_G := am_in (am_ck1 201 rfl) rfl
theorem gw_1_202 : (Jvm.Cond.code ({ cls := "ClassDesk$Instances", name := "dropValue", desc := "(II)J" } : Jvm.MethodName) prog_6_method_14_code (3 : Nat) (Option.some Jvm.ClassFile.FieldType.long)) ∈ am_G := am_in (am_ck1 202 rfl) rfl
theorem gw_1_203 : (Jvm.Cond.methodLink "ClassDeskLaw" (46 : Nat) ({ cls := "ClassDesk", name := "generic", desc := "(II)I" } : Jvm.MethodName)) ∈ am_G := am_in (am_ck1 203 rfl) rfl
theorem gw_1_204 : (Jvm.Cond.instanceMethod ({ cls := "ClassDesk", name := "generic", desc := "(II)I" } : Jvm.MethodName)) ∈ am_G := am_in (am_ck1 204 rfl) rfl
theorem gw_1_205 : (Jvm.Cond.selects "ClassDesk" ({ cls := "ClassDesk", name := "generic", desc := "(II)I" } : Jvm.MethodName) ({ cls := "ClassDesk", name := "generic", desc := "(II)I" } : Jvm.MethodName)) ∈ am_G := am_in (am_ck1 205 rfl) rfl
theorem gw_1_206 : (Jvm.Cond.code ({ cls := "ClassDesk", name := "generic", desc := "(II)I" } : Jvm.MethodName) prog_1_method_9_code (3 : Nat) (Option.some Jvm.ClassFile.FieldType.int)) ∈ am_G := am_in (am_ck1 206 rfl) rfl
theorem gw_1_207 : (Jvm.Cond.methodLink "ClassDesk" (119 : Nat) ({ cls := "ClassDesk", name := "isGeneric", desc := "(I)Z" } : Jvm.MethodName)) ∈ am_G := am_in (am_ck1 207 rfl) rfl
theorem gw_1_208 : (Jvm.Cond.static ({ cls := "ClassDesk", name := "isGeneric", desc := "(I)Z" } : Jvm.MethodName)) ∈ am_G := am_in (am_ck1 208 rfl) rfl
theorem gw_1_209 : (Jvm.Cond.code ({ cls := "ClassDesk", name := "isGeneric", desc := "(I)Z" } : Jvm.MethodName) prog_1_method_25_code (1 : Nat) (Option.some Jvm.ClassFile.FieldType.boolean)) ∈ am_G := am_in (am_ck1 209 rfl) rfl
theorem gw_1_210 : (Jvm.Cond.methodLink "ClassDesk" (122 : Nat) ({ cls := "ClassDesk$Keeper", name := "forget", desc := "(I)V" } : Jvm.MethodName)) ∈ am_G := am_in (am_ck1 210 rfl) rfl
theorem gw_1_211 : (Jvm.Cond.methodLink "ClassDesk" (126 : Nat) ({ cls := "ClassDesk$Methods", name := "startGeneric", desc := "(II)I" } : Jvm.MethodName)) ∈ am_G := am_in (am_ck1 211 rfl) rfl
theorem gw_1_212 : (Jvm.Cond.instanceMethod ({ cls := "ClassDesk$Methods", name := "startGeneric", desc := "(II)I" } : Jvm.MethodName)) ∈ am_G := am_in (am_ck1 212 rfl) rfl
theorem gw_1_213 : (Jvm.Cond.selects "ClassDesk$Methods" ({ cls := "ClassDesk$Methods", name := "startGeneric", desc := "(II)I" } : Jvm.MethodName) ({ cls := "ClassDesk$Methods", name := "startGeneric", desc := "(II)I" } : Jvm.MethodName)) ∈ am_G := am_in (am_ck1 213 rfl) rfl
theorem gw_1_214 : (Jvm.Cond.code ({ cls := "ClassDesk$Methods", name := "startGeneric", desc := "(II)I" } : Jvm.MethodName) prog_9_method_11_code (5 : Nat) (Option.some Jvm.ClassFile.FieldType.int)) ∈ am_G := am_in (am_ck1 214 rfl) rfl
theorem gw_1_215 : (Jvm.Cond.methodLink "ClassDesk$Methods" (38 : Nat) ({ cls := "ClassDesk$Methods", name := "isOf", desc := "(II)Z" } : Jvm.MethodName)) ∈ am_G := am_in (am_ck1 215 rfl) rfl
theorem gw_1_216 : (Jvm.Cond.instanceMethod ({ cls := "ClassDesk$Methods", name := "isOf", desc := "(II)Z" } : Jvm.MethodName)) ∈ am_G := am_in (am_ck1 216 rfl) rfl
theorem gw_1_217 : (Jvm.Cond.selects "ClassDesk$Methods" ({ cls := "ClassDesk$Methods", name := "isOf", desc := "(II)Z" } : Jvm.MethodName) ({ cls := "ClassDesk$Methods", name := "isOf", desc := "(II)Z" } : Jvm.MethodName)) ∈ am_G := am_in (am_ck1 217 rfl) rfl
theorem gw_1_218 : (Jvm.Cond.code ({ cls := "ClassDesk$Methods", name := "isOf", desc := "(II)Z" } : Jvm.MethodName) prog_9_method_5_code (3 : Nat) (Option.some Jvm.ClassFile.FieldType.boolean)) ∈ am_G := am_in (am_ck1 218 rfl) rfl
theorem gw_1_219 : (Jvm.Cond.methodLink "ClassDesk$Methods" (42 : Nat) ({ cls := "ClassDesk$Methods", name := "takeAway", desc := "(I)I" } : Jvm.MethodName)) ∈ am_G := am_in (am_ck1 219 rfl) rfl
theorem gw_1_220 : (Jvm.Cond.instanceMethod ({ cls := "ClassDesk$Methods", name := "takeAway", desc := "(I)I" } : Jvm.MethodName)) ∈ am_G := am_in (am_ck1 220 rfl) rfl
theorem gw_1_221 : (Jvm.Cond.selects "ClassDesk$Methods" ({ cls := "ClassDesk$Methods", name := "takeAway", desc := "(I)I" } : Jvm.MethodName) ({ cls := "ClassDesk$Methods", name := "takeAway", desc := "(I)I" } : Jvm.MethodName)) ∈ am_G := am_in (am_ck1 221 rfl) rfl
theorem gw_1_222 : (Jvm.Cond.code ({ cls := "ClassDesk$Methods", name := "takeAway", desc := "(I)I" } : Jvm.MethodName) prog_9_method_15_code (3 : Nat) (Option.some Jvm.ClassFile.FieldType.int)) ∈ am_G := am_in (am_ck1 222 rfl) rfl
theorem gw_1_223 : (Jvm.Cond.methodLink "ClassDeskLaw" (50 : Nat) ({ cls := "ClassDesk", name := "method", desc := "(IIIII)I" } : Jvm.MethodName)) ∈ am_G := am_in (am_ck1 223 rfl) rfl
theorem gw_1_224 : (Jvm.Cond.instanceMethod ({ cls := "ClassDesk", name := "method", desc := "(IIIII)I" } : Jvm.MethodName)) ∈ am_G := am_in (am_ck1 224 rfl) rfl
theorem gw_1_225 : (Jvm.Cond.selects "ClassDesk" ({ cls := "ClassDesk", name := "method", desc := "(IIIII)I" } : Jvm.MethodName) ({ cls := "ClassDesk", name := "method", desc := "(IIIII)I" } : Jvm.MethodName)) ∈ am_G := am_in (am_ck1 225 rfl) rfl
theorem gw_1_226 : (Jvm.Cond.code ({ cls := "ClassDesk", name := "method", desc := "(IIIII)I" } : Jvm.MethodName) prog_1_method_10_code (9 : Nat) (Option.some Jvm.ClassFile.FieldType.int)) ∈ am_G := am_in (am_ck1 226 rfl) rfl
theorem gw_1_227 : (Jvm.Cond.methodLink "ClassDesk" (129 : Nat) ({ cls := "ClassDesk", name := "isBody", desc := "(I)Z" } : Jvm.MethodName)) ∈ am_G := am_in (am_ck1 227 rfl) rfl
theorem gw_1_228 : (Jvm.Cond.static ({ cls := "ClassDesk", name := "isBody", desc := "(I)Z" } : Jvm.MethodName)) ∈ am_G := am_in (am_ck1 228 rfl) rfl
theorem gw_1_229 : (Jvm.Cond.code ({ cls := "ClassDesk", name := "isBody", desc := "(I)Z" } : Jvm.MethodName) prog_1_method_26_code (1 : Nat) (Option.some Jvm.ClassFile.FieldType.boolean)) ∈ am_G := am_in (am_ck1 229 rfl) rfl
theorem gw_1_230 : (Jvm.Cond.methodLink "ClassDesk" (132 : Nat) ({ cls := "ClassDesk$Methods", name := "parametersOf", desc := "(I)I" } : Jvm.MethodName)) ∈ am_G := am_in (am_ck1 230 rfl) rfl
theorem gw_1_231 : (Jvm.Cond.instanceMethod ({ cls := "ClassDesk$Methods", name := "parametersOf", desc := "(I)I" } : Jvm.MethodName)) ∈ am_G := am_in (am_ck1 231 rfl) rfl
theorem gw_1_232 : (Jvm.Cond.selects "ClassDesk$Methods" ({ cls := "ClassDesk$Methods", name := "parametersOf", desc := "(I)I" } : Jvm.MethodName) ({ cls := "ClassDesk$Methods", name := "parametersOf", desc := "(I)I" } : Jvm.MethodName)) ∈ am_G := am_in (am_ck1 232 rfl) rfl
theorem gw_1_233 : (Jvm.Cond.code ({ cls := "ClassDesk$Methods", name := "parametersOf", desc := "(I)I" } : Jvm.MethodName) prog_9_method_3_code (2 : Nat) (Option.some Jvm.ClassFile.FieldType.int)) ∈ am_G := am_in (am_ck1 233 rfl) rfl
theorem gw_1_234 : (Jvm.Cond.methodLink "ClassDesk" (135 : Nat) ({ cls := "ClassDesk", name := "isSpecializer", desc := "(I)Z" } : Jvm.MethodName)) ∈ am_G := am_in (am_ck1 234 rfl) rfl
theorem gw_1_235 : (Jvm.Cond.static ({ cls := "ClassDesk", name := "isSpecializer", desc := "(I)Z" } : Jvm.MethodName)) ∈ am_G := am_in (am_ck1 235 rfl) rfl
theorem gw_1_236 : (Jvm.Cond.code ({ cls := "ClassDesk", name := "isSpecializer", desc := "(I)Z" } : Jvm.MethodName) prog_1_method_22_code (1 : Nat) (Option.some Jvm.ClassFile.FieldType.boolean)) ∈ am_G := am_in (am_ck1 236 rfl) rfl
theorem gw_1_237 : (Jvm.Cond.methodLink "ClassDesk" (138 : Nat) ({ cls := "ClassDesk", name := "isSpecializerThere", desc := "(I)Z" } : Jvm.MethodName)) ∈ am_G := am_in (am_ck1 237 rfl) rfl
theorem gw_1_239 : (Jvm.Cond.instanceMethod ({ cls := "ClassDesk", name := "isSpecializerThere", desc := "(I)Z" } : Jvm.MethodName)) ∈ am_G := am_in (am_ck1 239 rfl) rfl
theorem gw_2_0 : (Jvm.Cond.code ({ cls := "ClassDesk", name := "isSpecializerThere", desc := "(I)Z" } : Jvm.MethodName) prog_1_method_21_code (2 : Nat) (Option.some Jvm.ClassFile.FieldType.boolean)) ∈ am_G := am_in (am_ck2 0 rfl) rfl
theorem gw_2_1 : (Jvm.Cond.methodLink "ClassDesk" (141 : Nat) ({ cls := "ClassDesk$Methods", name := "settle", desc := "(IIIII)I" } : Jvm.MethodName)) ∈ am_G := am_in (am_ck2 1 rfl) rfl
theorem gw_2_2 : (Jvm.Cond.instanceMethod ({ cls := "ClassDesk$Methods", name := "settle", desc := "(IIIII)I" } : Jvm.MethodName)) ∈ am_G := am_in (am_ck2 2 rfl) rfl
theorem gw_2_3 : (Jvm.Cond.selects "ClassDesk$Methods" ({ cls := "ClassDesk$Methods", name := "settle", desc := "(IIIII)I" } : Jvm.MethodName) ({ cls := "ClassDesk$Methods", name := "settle", desc := "(IIIII)I" } : Jvm.MethodName)) ∈ am_G := am_in (am_ck2 3 rfl) rfl
theorem gw_2_4 : (Jvm.Cond.code ({ cls := "ClassDesk$Methods", name := "settle", desc := "(IIIII)I" } : Jvm.MethodName) prog_9_method_12_code (7 : Nat) (Option.some Jvm.ClassFile.FieldType.int)) ∈ am_G := am_in (am_ck2 4 rfl) rfl
theorem gw_2_5 : (Jvm.Cond.methodLink "ClassDesk$Methods" (46 : Nat) ({ cls := "ClassDesk$Methods", name := "alike", desc := "(IIII)I" } : Jvm.MethodName)) ∈ am_G := am_in (am_ck2 5 rfl) rfl
theorem gw_2_7 : (Jvm.Cond.instanceMethod ({ cls := "ClassDesk$Methods", name := "alike", desc := "(IIII)I" } : Jvm.MethodName)) ∈ am_G := am_in (am_ck2 7 rfl) rfl
theorem gw_2_8 : (Jvm.Cond.code ({ cls := "ClassDesk$Methods", name := "alike", desc := "(IIII)I" } : Jvm.MethodName) prog_9_method_13_code (6 : Nat) (Option.some Jvm.ClassFile.FieldType.int)) ∈ am_G := am_in (am_ck2 8 rfl) rfl
theorem gw_2_9 : (Jvm.Cond.methodLink "ClassDesk$Methods" (50 : Nat) ({ cls := "ClassDesk$Methods", name := "leastFree", desc := "()I" } : Jvm.MethodName)) ∈ am_G := am_in (am_ck2 9 rfl) rfl
theorem gw_2_11 : (Jvm.Cond.instanceMethod ({ cls := "ClassDesk$Methods", name := "leastFree", desc := "()I" } : Jvm.MethodName)) ∈ am_G := am_in (am_ck2 11 rfl) rfl
theorem gw_2_12 : (Jvm.Cond.code ({ cls := "ClassDesk$Methods", name := "leastFree", desc := "()I" } : Jvm.MethodName) prog_9_method_14_code (2 : Nat) (Option.some Jvm.ClassFile.FieldType.int)) ∈ am_G := am_in (am_ck2 12 rfl) rfl
theorem gw_2_13 : (Jvm.Cond.methodLink "ClassDeskLaw" (55 : Nat) ({ cls := "ClassDesk", name := "remove", desc := "(I)I" } : Jvm.MethodName)) ∈ am_G := am_in (am_ck2 13 rfl) rfl
theorem gw_2_14 : (Jvm.Cond.instanceMethod ({ cls := "ClassDesk", name := "remove", desc := "(I)I" } : Jvm.MethodName)) ∈ am_G := am_in (am_ck2 14 rfl) rfl
theorem gw_2_15 : (Jvm.Cond.selects "ClassDesk" ({ cls := "ClassDesk", name := "remove", desc := "(I)I" } : Jvm.MethodName) ({ cls := "ClassDesk", name := "remove", desc := "(I)I" } : Jvm.MethodName)) ∈ am_G := am_in (am_ck2 15 rfl) rfl
theorem gw_2_16 : (Jvm.Cond.code ({ cls := "ClassDesk", name := "remove", desc := "(I)I" } : Jvm.MethodName) prog_1_method_11_code (3 : Nat) (Option.some Jvm.ClassFile.FieldType.int)) ∈ am_G := am_in (am_ck2 16 rfl) rfl
theorem gw_2_17 : (Jvm.Cond.methodLink "ClassDesk" (144 : Nat) ({ cls := "ClassDesk$Methods", name := "isThere", desc := "(I)Z" } : Jvm.MethodName)) ∈ am_G := am_in (am_ck2 17 rfl) rfl
theorem gw_2_18 : (Jvm.Cond.instanceMethod ({ cls := "ClassDesk$Methods", name := "isThere", desc := "(I)Z" } : Jvm.MethodName)) ∈ am_G := am_in (am_ck2 18 rfl) rfl
theorem gw_2_19 : (Jvm.Cond.selects "ClassDesk$Methods" ({ cls := "ClassDesk$Methods", name := "isThere", desc := "(I)Z" } : Jvm.MethodName) ({ cls := "ClassDesk$Methods", name := "isThere", desc := "(I)Z" } : Jvm.MethodName)) ∈ am_G := am_in (am_ck2 19 rfl) rfl
theorem gw_2_20 : (Jvm.Cond.code ({ cls := "ClassDesk$Methods", name := "isThere", desc := "(I)Z" } : Jvm.MethodName) prog_9_method_4_code (2 : Nat) (Option.some Jvm.ClassFile.FieldType.boolean)) ∈ am_G := am_in (am_ck2 20 rfl) rfl
theorem gw_2_22 : (Jvm.Cond.methodLink "ClassDesk" (145 : Nat) ({ cls := "ClassDesk$Methods", name := "takeAway", desc := "(I)I" } : Jvm.MethodName)) ∈ am_G := am_in (am_ck2 22 rfl) rfl
theorem gw_2_23 : (Jvm.Cond.methodLink "ClassDeskLaw" (59 : Nat) ({ cls := "ClassDesk", name := "step", desc := "(III)I" } : Jvm.MethodName)) ∈ am_G := am_in (am_ck2 23 rfl) rfl
theorem gw_2_24 : (Jvm.Cond.instanceMethod ({ cls := "ClassDesk", name := "step", desc := "(III)I" } : Jvm.MethodName)) ∈ am_G := am_in (am_ck2 24 rfl) rfl
theorem gw_2_25 : (Jvm.Cond.selects "ClassDesk" ({ cls := "ClassDesk", name := "step", desc := "(III)I" } : Jvm.MethodName) ({ cls := "ClassDesk", name := "step", desc := "(III)I" } : Jvm.MethodName)) ∈ am_G := am_in (am_ck2 25 rfl) rfl
theorem gw_2_26 : (Jvm.Cond.code ({ cls := "ClassDesk", name := "step", desc := "(III)I" } : Jvm.MethodName) prog_1_method_12_code (4 : Nat) (Option.some Jvm.ClassFile.FieldType.int)) ∈ am_G := am_in (am_ck2 26 rfl) rfl
theorem gw_2_27 : (Jvm.Cond.methodLink "ClassDesk" (148 : Nat) ({ cls := "ClassDesk", name := "mayBeOperand", desc := "(II)Z" } : Jvm.MethodName)) ∈ am_G := am_in (am_ck2 27 rfl) rfl
theorem gw_2_28 : (Jvm.Cond.static ({ cls := "ClassDesk", name := "mayBeOperand", desc := "(II)Z" } : Jvm.MethodName)) ∈ am_G := am_in (am_ck2 28 rfl) rfl
theorem gw_2_29 : (Jvm.Cond.code ({ cls := "ClassDesk", name := "mayBeOperand", desc := "(II)Z" } : Jvm.MethodName) prog_1_method_23_code (2 : Nat) (Option.some Jvm.ClassFile.FieldType.boolean)) ∈ am_G := am_in (am_ck2 29 rfl) rfl
theorem gw_2_30 : (Jvm.Cond.methodLink "ClassDesk" (152 : Nat) ({ cls := "ClassDesk$Bodies", name := "append", desc := "(III)I" } : Jvm.MethodName)) ∈ am_G := am_in (am_ck2 30 rfl) rfl
theorem gw_2_31 : (Jvm.Cond.instanceMethod ({ cls := "ClassDesk$Bodies", name := "append", desc := "(III)I" } : Jvm.MethodName)) ∈ am_G := am_in (am_ck2 31 rfl) rfl
theorem gw_2_32 : (Jvm.Cond.selects "ClassDesk$Bodies" ({ cls := "ClassDesk$Bodies", name := "append", desc := "(III)I" } : Jvm.MethodName) ({ cls := "ClassDesk$Bodies", name := "append", desc := "(III)I" } : Jvm.MethodName)) ∈ am_G := am_in (am_ck2 32 rfl) rfl
theorem gw_2_33 : (Jvm.Cond.code ({ cls := "ClassDesk$Bodies", name := "append", desc := "(III)I" } : Jvm.MethodName) prog_2_method_2_code (4 : Nat) (Option.some Jvm.ClassFile.FieldType.int)) ∈ am_G := am_in (am_ck2 33 rfl) rfl
theorem gw_2_34 : (Jvm.Cond.methodLink "ClassDeskLaw" (64 : Nat) ({ cls := "ClassDesk", name := "clear", desc := "(I)I" } : Jvm.MethodName)) ∈ am_G := am_in (am_ck2 34 rfl) rfl
theorem gw_2_35 : (Jvm.Cond.instanceMethod ({ cls := "ClassDesk", name := "clear", desc := "(I)I" } : Jvm.MethodName)) ∈ am_G := am_in (am_ck2 35 rfl) rfl
theorem gw_2_36 : (Jvm.Cond.selects "ClassDesk" ({ cls := "ClassDesk", name := "clear", desc := "(I)I" } : Jvm.MethodName) ({ cls := "ClassDesk", name := "clear", desc := "(I)I" } : Jvm.MethodName)) ∈ am_G := am_in (am_ck2 36 rfl) rfl
theorem gw_2_37 : (Jvm.Cond.code ({ cls := "ClassDesk", name := "clear", desc := "(I)I" } : Jvm.MethodName) prog_1_method_13_code (2 : Nat) (Option.some Jvm.ClassFile.FieldType.int)) ∈ am_G := am_in (am_ck2 37 rfl) rfl
theorem gw_2_38 : (Jvm.Cond.methodLink "ClassDesk" (156 : Nat) ({ cls := "ClassDesk$Bodies", name := "empty", desc := "(I)I" } : Jvm.MethodName)) ∈ am_G := am_in (am_ck2 38 rfl) rfl
theorem gw_2_39 : (Jvm.Cond.instanceMethod ({ cls := "ClassDesk$Bodies", name := "empty", desc := "(I)I" } : Jvm.MethodName)) ∈ am_G := am_in (am_ck2 39 rfl) rfl
theorem gw_2_40 : (Jvm.Cond.selects "ClassDesk$Bodies" ({ cls := "ClassDesk$Bodies", name := "empty", desc := "(I)I" } : Jvm.MethodName) ({ cls := "ClassDesk$Bodies", name := "empty", desc := "(I)I" } : Jvm.MethodName)) ∈ am_G := am_in (am_ck2 40 rfl) rfl
theorem gw_2_41 : (Jvm.Cond.code ({ cls := "ClassDesk$Bodies", name := "empty", desc := "(I)I" } : Jvm.MethodName) prog_2_method_3_code (3 : Nat) (Option.some Jvm.ClassFile.FieldType.int)) ∈ am_G := am_in (am_ck2 41 rfl) rfl
theorem gw_2_42 : (Jvm.Cond.methodLink "ClassDeskLaw" (68 : Nat) ({ cls := "ClassDesk", name := "call", desc := "(III)J" } : Jvm.MethodName)) ∈ am_G := am_in (am_ck2 42 rfl) rfl
theorem gw_2_43 : (Jvm.Cond.instanceMethod ({ cls := "ClassDesk", name := "call", desc := "(III)J" } : Jvm.MethodName)) ∈ am_G := am_in (am_ck2 43 rfl) rfl
theorem gw_2_44 : (Jvm.Cond.selects "ClassDesk" ({ cls := "ClassDesk", name := "call", desc := "(III)J" } : Jvm.MethodName) ({ cls := "ClassDesk", name := "call", desc := "(III)J" } : Jvm.MethodName)) ∈ am_G := am_in (am_ck2 44 rfl) rfl
theorem gw_2_45 : (Jvm.Cond.code ({ cls := "ClassDesk", name := "call", desc := "(III)J" } : Jvm.MethodName) prog_1_method_14_code (7 : Nat) (Option.some Jvm.ClassFile.FieldType.long)) ∈ am_G := am_in (am_ck2 45 rfl) rfl
theorem gw_2_46 : (Jvm.Cond.constantLong "ClassDesk" (159 : Nat) (1099511627774 : Int64)) ∈ am_G := am_in (am_ck2 46 rfl) rfl
theorem gw_2_47 : (Jvm.Cond.methodLink "ClassDesk" (161 : Nat) ({ cls := "ClassDesk$Machine", name := "run", desc := "(III)J" } : Jvm.MethodName)) ∈ am_G := am_in (am_ck2 47 rfl) rfl
theorem gw_2_48 : (Jvm.Cond.instanceMethod ({ cls := "ClassDesk$Machine", name := "run", desc := "(III)J" } : Jvm.MethodName)) ∈ am_G := am_in (am_ck2 48 rfl) rfl
theorem gw_2_49 : (Jvm.Cond.selects "ClassDesk$Machine" ({ cls := "ClassDesk$Machine", name := "run", desc := "(III)J" } : Jvm.MethodName) ({ cls := "ClassDesk$Machine", name := "run", desc := "(III)J" } : Jvm.MethodName)) ∈ am_G := am_in (am_ck2 49 rfl) rfl
theorem gw_2_50 : (Jvm.Cond.code ({ cls := "ClassDesk$Machine", name := "run", desc := "(III)J" } : Jvm.MethodName) prog_8_method_4_code (6 : Nat) (Option.some Jvm.ClassFile.FieldType.long)) ∈ am_G := am_in (am_ck2 50 rfl) rfl
theorem gw_2_51 : (Jvm.Cond.methodLink "ClassDesk$Machine" (78 : Nat) ({ cls := "ClassDesk$Machine", name := "want", desc := "(III)V" } : Jvm.MethodName)) ∈ am_G := am_in (am_ck2 51 rfl) rfl
theorem gw_2_53 : (Jvm.Cond.instanceMethod ({ cls := "ClassDesk$Machine", name := "want", desc := "(III)V" } : Jvm.MethodName)) ∈ am_G := am_in (am_ck2 53 rfl) rfl
theorem gw_2_54 : (Jvm.Cond.code ({ cls := "ClassDesk$Machine", name := "want", desc := "(III)V" } : Jvm.MethodName) prog_8_method_6_code (4 : Nat) (Option.none : Option Jvm.ClassFile.FieldType)) ∈ am_G := am_in (am_ck2 54 rfl) rfl
theorem gw_2_55 : (Jvm.Cond.constant "ClassDesk$Machine" (82 : Nat) (1000000 : Int32)) ∈ am_G := am_in (am_ck2 55 rfl) rfl
theorem gw_2_56 : (Jvm.Cond.methodLink "ClassDesk$Machine" (83 : Nat) ({ cls := "ClassDesk$Machine", name := "innermost", desc := "()LClassDesk$Frame;" } : Jvm.MethodName)) ∈ am_G := am_in (am_ck2 56 rfl) rfl
theorem gw_2_58 : (Jvm.Cond.instanceMethod ({ cls := "ClassDesk$Machine", name := "innermost", desc := "()LClassDesk$Frame;" } : Jvm.MethodName)) ∈ am_G := am_in (am_ck2 58 rfl) rfl
theorem gw_2_59 : (Jvm.Cond.code ({ cls := "ClassDesk$Machine", name := "innermost", desc := "()LClassDesk$Frame;" } : Jvm.MethodName) prog_8_method_5_code (1 : Nat) (Option.some (Jvm.ClassFile.FieldType.object "ClassDesk$Frame"))) ∈ am_G := am_in (am_ck2 59 rfl) rfl
theorem gw_2_60 : (Jvm.Cond.methodLink "ClassDesk$Machine" (87 : Nat) ({ cls := "ClassDesk$Machine", name := "beginWanted", desc := "()V" } : Jvm.MethodName)) ∈ am_G := am_in (am_ck2 60 rfl) rfl
theorem gw_2_62 : (Jvm.Cond.instanceMethod ({ cls := "ClassDesk$Machine", name := "beginWanted", desc := "()V" } : Jvm.MethodName)) ∈ am_G := am_in (am_ck2 62 rfl) rfl
theorem gw_2_63 : (Jvm.Cond.code ({ cls := "ClassDesk$Machine", name := "beginWanted", desc := "()V" } : Jvm.MethodName) prog_8_method_7_code (3 : Nat) (Option.none : Option Jvm.ClassFile.FieldType)) ∈ am_G := am_in (am_ck2 63 rfl) rfl
theorem gw_2_64 : (Jvm.Cond.methodLink "ClassDesk$Machine" (96 : Nat) ({ cls := "ClassDesk$Methods", name := "parametersOf", desc := "(I)I" } : Jvm.MethodName)) ∈ am_G := am_in (am_ck2 64 rfl) rfl
theorem gw_2_65 : (Jvm.Cond.instantiable "ClassDesk$Work" (6 : Nat)) ∈ am_G := am_in (am_ck2 65 rfl) rfl
theorem gw_2_67 : (Jvm.Cond.instanceMethod ({ cls := "ClassDesk$Work", name := "<init>", desc := "()V" } : Jvm.MethodName)) ∈ am_G := am_in (am_ck2 67 rfl) rfl
theorem gw_2_68 : (Jvm.Cond.code ({ cls := "ClassDesk$Work", name := "<init>", desc := "()V" } : Jvm.MethodName) prog_11_method_1_code (1 : Nat) (Option.none : Option Jvm.ClassFile.FieldType)) ∈ am_G := am_in (am_ck2 68 rfl) rfl
theorem gw_2_69 : (Jvm.Cond.methodLink "ClassDesk$Work" (1 : Nat) ({ cls := "java/lang/Object", name := "<init>", desc := "()V" } : Jvm.MethodName)) ∈ am_G := am_in (am_ck2 69 rfl) rfl
theorem gw_2_70 : (Jvm.Cond.classLink "ClassDesk$Work" (7 : Nat) "ClassDesk$Effective") ∈ am_G := am_in (am_ck2 70 rfl) rfl
theorem gw_2_71 : (Jvm.Cond.instantiable "ClassDesk$Effective" (6 : Nat)) ∈ am_G := am_in (am_ck2 71 rfl) rfl
theorem gw_2_73 : (Jvm.Cond.instanceMethod ({ cls := "ClassDesk$Effective", name := "<init>", desc := "()V" } : Jvm.MethodName)) ∈ am_G := am_in (am_ck2 73 rfl) rfl
theorem gw_2_74 : (Jvm.Cond.code ({ cls := "ClassDesk$Effective", name := "<init>", desc := "()V" } : Jvm.MethodName) prog_4_method_1_code (1 : Nat) (Option.none : Option Jvm.ClassFile.FieldType)) ∈ am_G := am_in (am_ck2 74 rfl) rfl
theorem gw_2_75 : (Jvm.Cond.methodLink "ClassDesk$Effective" (3 : Nat) ({ cls := "java/lang/Object", name := "<init>", desc := "()V" } : Jvm.MethodName)) ∈ am_G := am_in (am_ck2 75 rfl) rfl
theorem gw_2_76 : (Jvm.Cond.fieldLink "ClassDesk$Effective" (9 : Nat) "ClassDesk$Effective" "row" "[I") ∈ am_G := am_in (am_ck2 76 rfl) rfl
theorem gw_2_77 : (Jvm.Cond.fieldLink "ClassDesk$Machine" (158 : Nat) "ClassDesk$Effective" "row" "[I") ∈ am_G := am_in (am_ck2 77 rfl) rfl
theorem gw_2_78 : (Jvm.Cond.fieldLink "ClassDesk$Keeper" (109 : Nat) "ClassDesk$Effective" "row" "[I") ∈ am_G := am_in (am_ck2 78 rfl) rfl
theorem gw_2_79 : (Jvm.Cond.fieldLink "ClassDesk$Effective" (15 : Nat) "ClassDesk$Effective" "size" "I") ∈ am_G := am_in (am_ck2 79 rfl) rfl
theorem gw_2_80 : (Jvm.Cond.fieldLink "ClassDesk$Machine" (116 : Nat) "ClassDesk$Effective" "size" "I") ∈ am_G := am_in (am_ck2 80 rfl) rfl
theorem gw_2_81 : (Jvm.Cond.fieldLink "ClassDesk$Keeper" (82 : Nat) "ClassDesk$Effective" "size" "I") ∈ am_G := am_in (am_ck2 81 rfl) rfl
theorem gw_2_82 : (Jvm.Cond.fieldLink "ClassDesk$Effective" (19 : Nat) "ClassDesk$Effective" "befores" "I") ∈ am_G := am_in (am_ck2 82 rfl) rfl
theorem gw_2_83 : (Jvm.Cond.fieldLink "ClassDesk$Keeper" (89 : Nat) "ClassDesk$Effective" "befores" "I") ∈ am_G := am_in (am_ck2 83 rfl) rfl
theorem gw_2_84 : (Jvm.Cond.fieldLink "ClassDesk$Machine" (181 : Nat) "ClassDesk$Effective" "befores" "I") ∈ am_G := am_in (am_ck2 84 rfl) rfl
theorem gw_2_85 : (Jvm.Cond.fieldLink "ClassDesk$Effective" (22 : Nat) "ClassDesk$Effective" "primaries" "I") ∈ am_G := am_in (am_ck2 85 rfl) rfl
theorem gw_2_86 : (Jvm.Cond.fieldLink "ClassDesk$Machine" (148 : Nat) "ClassDesk$Effective" "primaries" "I") ∈ am_G := am_in (am_ck2 86 rfl) rfl
theorem gw_2_87 : (Jvm.Cond.fieldLink "ClassDesk$Keeper" (92 : Nat) "ClassDesk$Effective" "primaries" "I") ∈ am_G := am_in (am_ck2 87 rfl) rfl
theorem gw_2_88 : (Jvm.Cond.fieldLink "ClassDesk$Effective" (25 : Nat) "ClassDesk$Effective" "afters" "I") ∈ am_G := am_in (am_ck2 88 rfl) rfl
theorem gw_2_89 : (Jvm.Cond.fieldLink "ClassDesk$Keeper" (95 : Nat) "ClassDesk$Effective" "afters" "I") ∈ am_G := am_in (am_ck2 89 rfl) rfl
theorem gw_2_90 : (Jvm.Cond.fieldLink "ClassDesk$Machine" (201 : Nat) "ClassDesk$Effective" "afters" "I") ∈ am_G := am_in (am_ck2 90 rfl) rfl
theorem gw_2_91 : (Jvm.Cond.fieldLink "ClassDesk$Effective" (28 : Nat) "ClassDesk$Effective" "age" "I") ∈ am_G := am_in (am_ck2 91 rfl) rfl
theorem gw_2_92 : (Jvm.Cond.fieldLink "ClassDesk$Keeper" (67 : Nat) "ClassDesk$Effective" "age" "I") ∈ am_G := am_in (am_ck2 92 rfl) rfl
theorem gw_2_93 : (Jvm.Cond.laysFinal "ClassDesk$Effective" "ClassDesk$Effective" "row" "[I") ∈ am_G := am_in (am_ck2 93 rfl) rfl
theorem gw_2_95 : (Jvm.Cond.lays "ClassDesk$Effective" "ClassDesk$Effective" "size" "I") ∈ am_G := am_in (am_ck2 95 rfl) rfl
theorem gw_2_97 : (Jvm.Cond.lays "ClassDesk$Effective" "ClassDesk$Effective" "befores" "I") ∈ am_G := am_in (am_ck2 97 rfl) rfl
theorem gw_2_99 : (Jvm.Cond.lays "ClassDesk$Effective" "ClassDesk$Effective" "primaries" "I") ∈ am_G := am_in (am_ck2 99 rfl) rfl
theorem gw_2_101 : (Jvm.Cond.lays "ClassDesk$Effective" "ClassDesk$Effective" "afters" "I") ∈ am_G := am_in (am_ck2 101 rfl) rfl
theorem gw_2_103 : (Jvm.Cond.lays "ClassDesk$Effective" "ClassDesk$Effective" "age" "I") ∈ am_G := am_in (am_ck2 103 rfl) rfl
theorem gw_2_106 : (Jvm.Cond.fieldLink "ClassDesk$Work" (10 : Nat) "ClassDesk$Work" "spare" "LClassDesk$Effective;") ∈ am_G := am_in (am_ck2 106 rfl) rfl
theorem gw_2_107 : (Jvm.Cond.fieldLink "ClassDesk$Machine" (103 : Nat) "ClassDesk$Work" "spare" "LClassDesk$Effective;") ∈ am_G := am_in (am_ck2 107 rfl) rfl
theorem gw_2_108 : (Jvm.Cond.fieldLink "ClassDesk$Work" (16 : Nat) "ClassDesk$Work" "effective" "LClassDesk$Effective;") ∈ am_G := am_in (am_ck2 108 rfl) rfl
theorem gw_2_109 : (Jvm.Cond.fieldLink "ClassDesk$Machine" (113 : Nat) "ClassDesk$Work" "effective" "LClassDesk$Effective;") ∈ am_G := am_in (am_ck2 109 rfl) rfl
theorem gw_2_110 : (Jvm.Cond.fieldLink "ClassDesk$Work" (19 : Nat) "ClassDesk$Work" "parameters" "I") ∈ am_G := am_in (am_ck2 110 rfl) rfl
theorem gw_2_111 : (Jvm.Cond.fieldLink "ClassDesk$Machine" (125 : Nat) "ClassDesk$Work" "parameters" "I") ∈ am_G := am_in (am_ck2 111 rfl) rfl
theorem gw_2_112 : (Jvm.Cond.fieldLink "ClassDesk$Work" (23 : Nat) "ClassDesk$Work" "x" "I") ∈ am_G := am_in (am_ck2 112 rfl) rfl
theorem gw_2_113 : (Jvm.Cond.fieldLink "ClassDesk$Frame" (47 : Nat) "ClassDesk$Work" "x" "I") ∈ am_G := am_in (am_ck2 113 rfl) rfl
theorem gw_2_114 : (Jvm.Cond.fieldLink "ClassDesk$Machine" (128 : Nat) "ClassDesk$Work" "x" "I") ∈ am_G := am_in (am_ck2 114 rfl) rfl
theorem gw_2_115 : (Jvm.Cond.fieldLink "ClassDesk$Work" (26 : Nat) "ClassDesk$Work" "y" "I") ∈ am_G := am_in (am_ck2 115 rfl) rfl
theorem gw_2_116 : (Jvm.Cond.fieldLink "ClassDesk$Frame" (42 : Nat) "ClassDesk$Work" "y" "I") ∈ am_G := am_in (am_ck2 116 rfl) rfl
theorem gw_2_117 : (Jvm.Cond.fieldLink "ClassDesk$Machine" (131 : Nat) "ClassDesk$Work" "y" "I") ∈ am_G := am_in (am_ck2 117 rfl) rfl
theorem gw_2_118 : (Jvm.Cond.fieldLink "ClassDesk$Work" (29 : Nat) "ClassDesk$Work" "openBelow" "I") ∈ am_G := am_in (am_ck2 118 rfl) rfl
theorem gw_2_119 : (Jvm.Cond.fieldLink "ClassDesk$Machine" (134 : Nat) "ClassDesk$Work" "openBelow" "I") ∈ am_G := am_in (am_ck2 119 rfl) rfl
theorem gw_2_120 : (Jvm.Cond.laysFinal "ClassDesk$Work" "ClassDesk$Work" "spare" "LClassDesk$Effective;") ∈ am_G := am_in (am_ck2 120 rfl) rfl
theorem gw_2_122 : (Jvm.Cond.lays "ClassDesk$Work" "ClassDesk$Work" "effective" "LClassDesk$Effective;") ∈ am_G := am_in (am_ck2 122 rfl) rfl
theorem gw_2_124 : (Jvm.Cond.lays "ClassDesk$Work" "ClassDesk$Work" "parameters" "I") ∈ am_G := am_in (am_ck2 124 rfl) rfl
theorem gw_2_126 : (Jvm.Cond.lays "ClassDesk$Work" "ClassDesk$Work" "x" "I") ∈ am_G := am_in (am_ck2 126 rfl) rfl
theorem gw_2_128 : (Jvm.Cond.lays "ClassDesk$Work" "ClassDesk$Work" "y" "I") ∈ am_G := am_in (am_ck2 128 rfl) rfl
theorem gw_2_130 : (Jvm.Cond.lays "ClassDesk$Work" "ClassDesk$Work" "openBelow" "I") ∈ am_G := am_in (am_ck2 130 rfl) rfl
theorem gw_2_133 : (Jvm.Cond.methodLink "ClassDesk$Machine" (107 : Nat) ({ cls := "ClassDesk$Keeper", name := "effectiveFor", desc := "(IIILClassDesk$Effective;)LClassDesk$Effective;" } : Jvm.MethodName)) ∈ am_G := am_in (am_ck2 133 rfl) rfl
theorem gw_2_134 : (Jvm.Cond.instanceMethod ({ cls := "ClassDesk$Keeper", name := "effectiveFor", desc := "(IIILClassDesk$Effective;)LClassDesk$Effective;" } : Jvm.MethodName)) ∈ am_G := am_in (am_ck2 134 rfl) rfl
theorem gw_2_135 : (Jvm.Cond.selects "ClassDesk$Keeper" ({ cls := "ClassDesk$Keeper", name := "effectiveFor", desc := "(IIILClassDesk$Effective;)LClassDesk$Effective;" } : Jvm.MethodName) ({ cls := "ClassDesk$Keeper", name := "effectiveFor", desc := "(IIILClassDesk$Effective;)LClassDesk$Effective;" } : Jvm.MethodName)) ∈ am_G := am_in (am_ck2 135 rfl) rfl
theorem gw_2_136 : (Jvm.Cond.code ({ cls := "ClassDesk$Keeper", name := "effectiveFor", desc := "(IIILClassDesk$Effective;)LClassDesk$Effective;" } : Jvm.MethodName) prog_7_method_6_code (8 : Nat) (Option.some (Jvm.ClassFile.FieldType.object "ClassDesk$Effective"))) ∈ am_G := am_in (am_ck2 136 rfl) rfl
theorem gw_2_137 : (Jvm.Cond.methodLink "ClassDesk$Keeper" (47 : Nat) ({ cls := "ClassDesk$Keeper", name := "isForInstances", desc := "(III)Z" } : Jvm.MethodName)) ∈ am_G := am_in (am_ck2 137 rfl) rfl
theorem gw_2_139 : (Jvm.Cond.instanceMethod ({ cls := "ClassDesk$Keeper", name := "isForInstances", desc := "(III)Z" } : Jvm.MethodName)) ∈ am_G := am_in (am_ck2 139 rfl) rfl
theorem gw_2_140 : (Jvm.Cond.code ({ cls := "ClassDesk$Keeper", name := "isForInstances", desc := "(III)Z" } : Jvm.MethodName) prog_7_method_7_code (5 : Nat) (Option.some Jvm.ClassFile.FieldType.boolean)) ∈ am_G := am_in (am_ck2 140 rfl) rfl
theorem gw_2_141 : (Jvm.Cond.methodLink "ClassDesk$Keeper" (70 : Nat) ({ cls := "ClassDesk$Methods", name := "isOf", desc := "(II)Z" } : Jvm.MethodName)) ∈ am_G := am_in (am_ck2 141 rfl) rfl
theorem gw_2_142 : (Jvm.Cond.methodLink "ClassDesk$Keeper" (74 : Nat) ({ cls := "ClassDesk$Methods", name := "namesInstance", desc := "(I)Z" } : Jvm.MethodName)) ∈ am_G := am_in (am_ck2 142 rfl) rfl
theorem gw_2_143 : (Jvm.Cond.instanceMethod ({ cls := "ClassDesk$Methods", name := "namesInstance", desc := "(I)Z" } : Jvm.MethodName)) ∈ am_G := am_in (am_ck2 143 rfl) rfl
theorem gw_2_144 : (Jvm.Cond.selects "ClassDesk$Methods" ({ cls := "ClassDesk$Methods", name := "namesInstance", desc := "(I)Z" } : Jvm.MethodName) ({ cls := "ClassDesk$Methods", name := "namesInstance", desc := "(I)Z" } : Jvm.MethodName)) ∈ am_G := am_in (am_ck2 144 rfl) rfl
theorem gw_2_145 : (Jvm.Cond.code ({ cls := "ClassDesk$Methods", name := "namesInstance", desc := "(I)Z" } : Jvm.MethodName) prog_9_method_9_code (2 : Nat) (Option.some Jvm.ClassFile.FieldType.boolean)) ∈ am_G := am_in (am_ck2 145 rfl) rfl
theorem gw_2_146 : (Jvm.Cond.methodLink "ClassDesk$Keeper" (78 : Nat) ({ cls := "ClassDesk$Keeper", name := "rankOf", desc := "(III)I" } : Jvm.MethodName)) ∈ am_G := am_in (am_ck2 146 rfl) rfl
theorem gw_2_148 : (Jvm.Cond.instanceMethod ({ cls := "ClassDesk$Keeper", name := "rankOf", desc := "(III)I" } : Jvm.MethodName)) ∈ am_G := am_in (am_ck2 148 rfl) rfl
theorem gw_2_149 : (Jvm.Cond.code ({ cls := "ClassDesk$Keeper", name := "rankOf", desc := "(III)I" } : Jvm.MethodName) prog_7_method_11_code (6 : Nat) (Option.some Jvm.ClassFile.FieldType.int)) ∈ am_G := am_in (am_ck2 149 rfl) rfl
theorem gw_2_150 : (Jvm.Cond.methodLink "ClassDesk$Keeper" (112 : Nat) ({ cls := "ClassDesk$Methods", name := "firstOf", desc := "(I)I" } : Jvm.MethodName)) ∈ am_G := am_in (am_ck2 150 rfl) rfl
theorem gw_2_151 : (Jvm.Cond.instanceMethod ({ cls := "ClassDesk$Methods", name := "firstOf", desc := "(I)I" } : Jvm.MethodName)) ∈ am_G := am_in (am_ck2 151 rfl) rfl
theorem gw_2_152 : (Jvm.Cond.selects "ClassDesk$Methods" ({ cls := "ClassDesk$Methods", name := "firstOf", desc := "(I)I" } : Jvm.MethodName) ({ cls := "ClassDesk$Methods", name := "firstOf", desc := "(I)I" } : Jvm.MethodName)) ∈ am_G := am_in (am_ck2 152 rfl) rfl
theorem gw_2_153 : (Jvm.Cond.code ({ cls := "ClassDesk$Methods", name := "firstOf", desc := "(I)I" } : Jvm.MethodName) prog_9_method_7_code (2 : Nat) (Option.some Jvm.ClassFile.FieldType.int)) ∈ am_G := am_in (am_ck2 153 rfl) rfl
theorem gw_2_154 : (Jvm.Cond.methodLink "ClassDesk$Keeper" (115 : Nat) ({ cls := "ClassDesk$Keeper", name := "rankAt", desc := "(II)I" } : Jvm.MethodName)) ∈ am_G := am_in (am_ck2 154 rfl) rfl
theorem gw_2_156 : (Jvm.Cond.instanceMethod ({ cls := "ClassDesk$Keeper", name := "rankAt", desc := "(II)I" } : Jvm.MethodName)) ∈ am_G := am_in (am_ck2 156 rfl) rfl
theorem gw_2_157 : (Jvm.Cond.code ({ cls := "ClassDesk$Keeper", name := "rankAt", desc := "(II)I" } : Jvm.MethodName) prog_7_method_12_code (4 : Nat) (Option.some Jvm.ClassFile.FieldType.int)) ∈ am_G := am_in (am_ck2 157 rfl) rfl
theorem gw_2_158 : (Jvm.Cond.methodLink "ClassDesk$Keeper" (61 : Nat) ({ cls := "ClassDesk$Instances", name := "classOf", desc := "(I)I" } : Jvm.MethodName)) ∈ am_G := am_in (am_ck2 158 rfl) rfl
theorem gw_2_159 : (Jvm.Cond.instanceMethod ({ cls := "ClassDesk$Instances", name := "classOf", desc := "(I)I" } : Jvm.MethodName)) ∈ am_G := am_in (am_ck2 159 rfl) rfl
theorem gw_2_160 : (Jvm.Cond.selects "ClassDesk$Instances" ({ cls := "ClassDesk$Instances", name := "classOf", desc := "(I)I" } : Jvm.MethodName) ({ cls := "ClassDesk$Instances", name := "classOf", desc := "(I)I" } : Jvm.MethodName)) ∈ am_G := am_in (am_ck2 160 rfl) rfl
theorem gw_2_161 : (Jvm.Cond.code ({ cls := "ClassDesk$Instances", name := "classOf", desc := "(I)I" } : Jvm.MethodName) prog_6_method_5_code (2 : Nat) (Option.some Jvm.ClassFile.FieldType.int)) ∈ am_G := am_in (am_ck2 161 rfl) rfl
theorem gw_2_162 : (Jvm.Cond.methodLink "ClassDesk$Keeper" (122 : Nat) ({ cls := "ClassDesk$Classes", name := "placeOf", desc := "(II)I" } : Jvm.MethodName)) ∈ am_G := am_in (am_ck2 162 rfl) rfl
theorem gw_2_163 : (Jvm.Cond.methodLink "ClassDesk$Keeper" (119 : Nat) ({ cls := "ClassDesk$Methods", name := "secondOf", desc := "(I)I" } : Jvm.MethodName)) ∈ am_G := am_in (am_ck2 163 rfl) rfl
theorem gw_2_164 : (Jvm.Cond.instanceMethod ({ cls := "ClassDesk$Methods", name := "secondOf", desc := "(I)I" } : Jvm.MethodName)) ∈ am_G := am_in (am_ck2 164 rfl) rfl
theorem gw_2_165 : (Jvm.Cond.selects "ClassDesk$Methods" ({ cls := "ClassDesk$Methods", name := "secondOf", desc := "(I)I" } : Jvm.MethodName) ({ cls := "ClassDesk$Methods", name := "secondOf", desc := "(I)I" } : Jvm.MethodName)) ∈ am_G := am_in (am_ck2 165 rfl) rfl
theorem gw_2_166 : (Jvm.Cond.code ({ cls := "ClassDesk$Methods", name := "secondOf", desc := "(I)I" } : Jvm.MethodName) prog_9_method_8_code (2 : Nat) (Option.some Jvm.ClassFile.FieldType.int)) ∈ am_G := am_in (am_ck2 166 rfl) rfl
theorem gw_2_167 : (Jvm.Cond.methodLink "ClassDesk$Keeper" (51 : Nat) ({ cls := "ClassDesk$Keeper", name := "findAnew", desc := "(IIILClassDesk$Effective;)V" } : Jvm.MethodName)) ∈ am_G := am_in (am_ck2 167 rfl) rfl
theorem gw_2_169 : (Jvm.Cond.instanceMethod ({ cls := "ClassDesk$Keeper", name := "findAnew", desc := "(IIILClassDesk$Effective;)V" } : Jvm.MethodName)) ∈ am_G := am_in (am_ck2 169 rfl) rfl
theorem gw_2_170 : (Jvm.Cond.code ({ cls := "ClassDesk$Keeper", name := "findAnew", desc := "(IIILClassDesk$Effective;)V" } : Jvm.MethodName) prog_7_method_8_code (6 : Nat) (Option.none : Option Jvm.ClassFile.FieldType)) ∈ am_G := am_in (am_ck2 170 rfl) rfl
theorem gw_2_171 : (Jvm.Cond.methodLink "ClassDesk$Keeper" (85 : Nat) ({ cls := "ClassDesk$Keeper", name := "addKind", desc := "(ILClassDesk$Effective;)V" } : Jvm.MethodName)) ∈ am_G := am_in (am_ck2 171 rfl) rfl
theorem gw_2_173 : (Jvm.Cond.instanceMethod ({ cls := "ClassDesk$Keeper", name := "addKind", desc := "(ILClassDesk$Effective;)V" } : Jvm.MethodName)) ∈ am_G := am_in (am_ck2 173 rfl) rfl
theorem gw_2_174 : (Jvm.Cond.code ({ cls := "ClassDesk$Keeper", name := "addKind", desc := "(ILClassDesk$Effective;)V" } : Jvm.MethodName) prog_7_method_9_code (5 : Nat) (Option.none : Option Jvm.ClassFile.FieldType)) ∈ am_G := am_in (am_ck2 174 rfl) rfl
theorem gw_2_175 : (Jvm.Cond.methodLink "ClassDesk$Keeper" (98 : Nat) ({ cls := "ClassDesk$Methods", name := "kindOf", desc := "(I)I" } : Jvm.MethodName)) ∈ am_G := am_in (am_ck2 175 rfl) rfl
theorem gw_2_176 : (Jvm.Cond.instanceMethod ({ cls := "ClassDesk$Methods", name := "kindOf", desc := "(I)I" } : Jvm.MethodName)) ∈ am_G := am_in (am_ck2 176 rfl) rfl
theorem gw_2_177 : (Jvm.Cond.selects "ClassDesk$Methods" ({ cls := "ClassDesk$Methods", name := "kindOf", desc := "(I)I" } : Jvm.MethodName) ({ cls := "ClassDesk$Methods", name := "kindOf", desc := "(I)I" } : Jvm.MethodName)) ∈ am_G := am_in (am_ck2 177 rfl) rfl
theorem gw_2_178 : (Jvm.Cond.code ({ cls := "ClassDesk$Methods", name := "kindOf", desc := "(I)I" } : Jvm.MethodName) prog_9_method_6_code (2 : Nat) (Option.some Jvm.ClassFile.FieldType.int)) ∈ am_G := am_in (am_ck2 178 rfl) rfl
theorem gw_2_179 : (Jvm.Cond.methodLink "ClassDesk$Keeper" (101 : Nat) ({ cls := "ClassDesk$Keeper", name := "placeFor", desc := "(IILClassDesk$Effective;Z)I" } : Jvm.MethodName)) ∈ am_G := am_in (am_ck2 179 rfl) rfl
theorem gw_2_181 : (Jvm.Cond.instanceMethod ({ cls := "ClassDesk$Keeper", name := "placeFor", desc := "(IILClassDesk$Effective;Z)I" } : Jvm.MethodName)) ∈ am_G := am_in (am_ck2 181 rfl) rfl
theorem gw_2_182 : (Jvm.Cond.code ({ cls := "ClassDesk$Keeper", name := "placeFor", desc := "(IILClassDesk$Effective;Z)I" } : Jvm.MethodName) prog_7_method_10_code (6 : Nat) (Option.some Jvm.ClassFile.FieldType.int)) ∈ am_G := am_in (am_ck2 182 rfl) rfl
theorem gw_2_183 : (Jvm.Cond.methodLink "ClassDesk$Keeper" (105 : Nat) ({ cls := "ClassDesk$Effective", name := "insert", desc := "(II)V" } : Jvm.MethodName)) ∈ am_G := am_in (am_ck2 183 rfl) rfl
theorem gw_2_184 : (Jvm.Cond.instanceMethod ({ cls := "ClassDesk$Effective", name := "insert", desc := "(II)V" } : Jvm.MethodName)) ∈ am_G := am_in (am_ck2 184 rfl) rfl
theorem gw_2_185 : (Jvm.Cond.selects "ClassDesk$Effective" ({ cls := "ClassDesk$Effective", name := "insert", desc := "(II)V" } : Jvm.MethodName) ({ cls := "ClassDesk$Effective", name := "insert", desc := "(II)V" } : Jvm.MethodName)) ∈ am_G := am_in (am_ck2 185 rfl) rfl
theorem gw_2_186 : (Jvm.Cond.code ({ cls := "ClassDesk$Effective", name := "insert", desc := "(II)V" } : Jvm.MethodName) prog_4_method_2_code (4 : Nat) (Option.none : Option Jvm.ClassFile.FieldType)) ∈ am_G := am_in (am_ck2 186 rfl) rfl
theorem gw_2_187 : (Jvm.Cond.methodLink "ClassDesk$Keeper" (55 : Nat) ({ cls := "ClassDesk$Methods", name := "parametersOf", desc := "(I)I" } : Jvm.MethodName)) ∈ am_G := am_in (am_ck2 187 rfl) rfl
theorem gw_2_189 : (Jvm.Cond.methodLink "ClassDesk$Machine" (121 : Nat) ({ cls := "ClassDesk$Effective", name := "hasPrimary", desc := "()Z" } : Jvm.MethodName)) ∈ am_G := am_in (am_ck2 189 rfl) rfl
theorem gw_2_190 : (Jvm.Cond.instanceMethod ({ cls := "ClassDesk$Effective", name := "hasPrimary", desc := "()Z" } : Jvm.MethodName)) ∈ am_G := am_in (am_ck2 190 rfl) rfl
theorem gw_2_191 : (Jvm.Cond.selects "ClassDesk$Effective" ({ cls := "ClassDesk$Effective", name := "hasPrimary", desc := "()Z" } : Jvm.MethodName) ({ cls := "ClassDesk$Effective", name := "hasPrimary", desc := "()Z" } : Jvm.MethodName)) ∈ am_G := am_in (am_ck2 191 rfl) rfl
theorem gw_2_192 : (Jvm.Cond.code ({ cls := "ClassDesk$Effective", name := "hasPrimary", desc := "()Z" } : Jvm.MethodName) prog_4_method_3_code (1 : Nat) (Option.some Jvm.ClassFile.FieldType.boolean)) ∈ am_G := am_in (am_ck2 192 rfl) rfl
theorem gw_2_193 : (Jvm.Cond.methodLink "ClassDesk$Machine" (137 : Nat) ({ cls := "ClassDesk$Effective", name := "firstPlace", desc := "()I" } : Jvm.MethodName)) ∈ am_G := am_in (am_ck2 193 rfl) rfl
theorem gw_2_194 : (Jvm.Cond.instanceMethod ({ cls := "ClassDesk$Effective", name := "firstPlace", desc := "()I" } : Jvm.MethodName)) ∈ am_G := am_in (am_ck2 194 rfl) rfl
theorem gw_2_195 : (Jvm.Cond.selects "ClassDesk$Effective" ({ cls := "ClassDesk$Effective", name := "firstPlace", desc := "()I" } : Jvm.MethodName) ({ cls := "ClassDesk$Effective", name := "firstPlace", desc := "()I" } : Jvm.MethodName)) ∈ am_G := am_in (am_ck2 195 rfl) rfl
theorem gw_2_196 : (Jvm.Cond.code ({ cls := "ClassDesk$Effective", name := "firstPlace", desc := "()I" } : Jvm.MethodName) prog_4_method_4_code (1 : Nat) (Option.some Jvm.ClassFile.FieldType.int)) ∈ am_G := am_in (am_ck2 196 rfl) rfl
theorem gw_2_197 : (Jvm.Cond.methodLink "ClassDesk$Machine" (141 : Nat) ({ cls := "ClassDesk$Machine", name := "openFrame", desc := "(LClassDesk$Work;I)V" } : Jvm.MethodName)) ∈ am_G := am_in (am_ck2 197 rfl) rfl
theorem gw_2_199 : (Jvm.Cond.instanceMethod ({ cls := "ClassDesk$Machine", name := "openFrame", desc := "(LClassDesk$Work;I)V" } : Jvm.MethodName)) ∈ am_G := am_in (am_ck2 199 rfl) rfl
theorem gw_2_200 : (Jvm.Cond.code ({ cls := "ClassDesk$Machine", name := "openFrame", desc := "(LClassDesk$Work;I)V" } : Jvm.MethodName) prog_8_method_8_code (6 : Nat) (Option.none : Option Jvm.ClassFile.FieldType)) ∈ am_G := am_in (am_ck2 200 rfl) rfl
theorem gw_2_201 : (Jvm.Cond.instantiable "ClassDesk$Frame" (10 : Nat)) ∈ am_G := am_in (am_ck2 201 rfl) rfl
theorem gw_2_202 : (Jvm.Cond.methodLink "ClassDesk$Machine" (145 : Nat) ({ cls := "ClassDesk$Frame", name := "<init>", desc := "(LClassDesk$Work;)V" } : Jvm.MethodName)) ∈ am_G := am_in (am_ck2 202 rfl) rfl
theorem gw_2_203 : (Jvm.Cond.instanceMethod ({ cls := "ClassDesk$Frame", name := "<init>", desc := "(LClassDesk$Work;)V" } : Jvm.MethodName)) ∈ am_G := am_in (am_ck2 203 rfl) rfl
theorem gw_2_204 : (Jvm.Cond.code ({ cls := "ClassDesk$Frame", name := "<init>", desc := "(LClassDesk$Work;)V" } : Jvm.MethodName) prog_5_method_1_code (2 : Nat) (Option.none : Option Jvm.ClassFile.FieldType)) ∈ am_G := am_in (am_ck2 204 rfl) rfl
theorem gw_2_205 : (Jvm.Cond.methodLink "ClassDesk$Frame" (1 : Nat) ({ cls := "java/lang/Object", name := "<init>", desc := "()V" } : Jvm.MethodName)) ∈ am_G := am_in (am_ck2 205 rfl) rfl
theorem gw_2_206 : (Jvm.Cond.fieldLink "ClassDesk$Frame" (38 : Nat) "ClassDesk$Frame" "work" "LClassDesk$Work;") ∈ am_G := am_in (am_ck2 206 rfl) rfl
theorem gw_2_207 : (Jvm.Cond.fieldLink "ClassDesk$Machine" (151 : Nat) "ClassDesk$Frame" "work" "LClassDesk$Work;") ∈ am_G := am_in (am_ck2 207 rfl) rfl
theorem gw_2_208 : (Jvm.Cond.fieldLink "ClassDesk$Frame" (7 : Nat) "ClassDesk$Frame" "place" "I") ∈ am_G := am_in (am_ck2 208 rfl) rfl
theorem gw_2_209 : (Jvm.Cond.fieldLink "ClassDesk$Machine" (155 : Nat) "ClassDesk$Frame" "place" "I") ∈ am_G := am_in (am_ck2 209 rfl) rfl
theorem gw_2_210 : (Jvm.Cond.fieldLink "ClassDesk$Frame" (13 : Nat) "ClassDesk$Frame" "body" "I") ∈ am_G := am_in (am_ck2 210 rfl) rfl
theorem gw_2_211 : (Jvm.Cond.fieldLink "ClassDesk$Machine" (165 : Nat) "ClassDesk$Frame" "body" "I") ∈ am_G := am_in (am_ck2 211 rfl) rfl
theorem gw_2_212 : (Jvm.Cond.fieldLink "ClassDesk$Frame" (16 : Nat) "ClassDesk$Frame" "sum" "I") ∈ am_G := am_in (am_ck2 212 rfl) rfl
theorem gw_2_213 : (Jvm.Cond.fieldLink "ClassDesk$Machine" (168 : Nat) "ClassDesk$Frame" "sum" "I") ∈ am_G := am_in (am_ck2 213 rfl) rfl
theorem gw_2_214 : (Jvm.Cond.fieldLink "ClassDesk$Frame" (19 : Nat) "ClassDesk$Frame" "stepsBehind" "I") ∈ am_G := am_in (am_ck2 214 rfl) rfl
theorem gw_2_215 : (Jvm.Cond.fieldLink "ClassDesk$Machine" (171 : Nat) "ClassDesk$Frame" "stepsBehind" "I") ∈ am_G := am_in (am_ck2 215 rfl) rfl
theorem gw_2_216 : (Jvm.Cond.fieldLink "ClassDesk$Frame" (22 : Nat) "ClassDesk$Frame" "hasBegun" "Z") ∈ am_G := am_in (am_ck2 216 rfl) rfl
theorem gw_2_217 : (Jvm.Cond.fieldLink "ClassDesk$Machine" (174 : Nat) "ClassDesk$Frame" "hasBegun" "Z") ∈ am_G := am_in (am_ck2 217 rfl) rfl
theorem gw_2_218 : (Jvm.Cond.fieldLink "ClassDesk$Frame" (26 : Nat) "ClassDesk$Frame" "isSwapped" "Z") ∈ am_G := am_in (am_ck2 218 rfl) rfl
theorem gw_2_219 : (Jvm.Cond.fieldLink "ClassDesk$Machine" (178 : Nat) "ClassDesk$Frame" "isSwapped" "Z") ∈ am_G := am_in (am_ck2 219 rfl) rfl
theorem gw_2_220 : (Jvm.Cond.fieldLink "ClassDesk$Frame" (29 : Nat) "ClassDesk$Frame" "aside" "I") ∈ am_G := am_in (am_ck2 220 rfl) rfl
theorem gw_2_221 : (Jvm.Cond.fieldLink "ClassDesk$Machine" (184 : Nat) "ClassDesk$Frame" "aside" "I") ∈ am_G := am_in (am_ck2 221 rfl) rfl
theorem gw_2_222 : (Jvm.Cond.fieldLink "ClassDesk$Frame" (32 : Nat) "ClassDesk$Frame" "asideEnd" "I") ∈ am_G := am_in (am_ck2 222 rfl) rfl
theorem gw_2_223 : (Jvm.Cond.fieldLink "ClassDesk$Machine" (187 : Nat) "ClassDesk$Frame" "asideEnd" "I") ∈ am_G := am_in (am_ck2 223 rfl) rfl
theorem gw_2_224 : (Jvm.Cond.fieldLink "ClassDesk$Frame" (35 : Nat) "ClassDesk$Frame" "awaitsAfters" "Z") ∈ am_G := am_in (am_ck2 224 rfl) rfl
theorem gw_2_225 : (Jvm.Cond.fieldLink "ClassDesk$Machine" (190 : Nat) "ClassDesk$Frame" "awaitsAfters" "Z") ∈ am_G := am_in (am_ck2 225 rfl) rfl
theorem gw_2_226 : (Jvm.Cond.lays "ClassDesk$Frame" "ClassDesk$Frame" "work" "LClassDesk$Work;") ∈ am_G := am_in (am_ck2 226 rfl) rfl
theorem gw_2_228 : (Jvm.Cond.lays "ClassDesk$Frame" "ClassDesk$Frame" "place" "I") ∈ am_G := am_in (am_ck2 228 rfl) rfl
theorem gw_2_230 : (Jvm.Cond.lays "ClassDesk$Frame" "ClassDesk$Frame" "body" "I") ∈ am_G := am_in (am_ck2 230 rfl) rfl
theorem gw_2_232 : (Jvm.Cond.lays "ClassDesk$Frame" "ClassDesk$Frame" "sum" "I") ∈ am_G := am_in (am_ck2 232 rfl) rfl
theorem gw_2_234 : (Jvm.Cond.lays "ClassDesk$Frame" "ClassDesk$Frame" "stepsBehind" "I") ∈ am_G := am_in (am_ck2 234 rfl) rfl
theorem gw_2_236 : (Jvm.Cond.lays "ClassDesk$Frame" "ClassDesk$Frame" "hasBegun" "Z") ∈ am_G := am_in (am_ck2 236 rfl) rfl
theorem gw_2_238 : (Jvm.Cond.lays "ClassDesk$Frame" "ClassDesk$Frame" "isSwapped" "Z") ∈ am_G := am_in (am_ck2 238 rfl) rfl
theorem gw_3_0 : (Jvm.Cond.lays "ClassDesk$Frame" "ClassDesk$Frame" "aside" "I") ∈ am_G := am_in (am_ck3 0 rfl) rfl
theorem gw_3_2 : (Jvm.Cond.lays "ClassDesk$Frame" "ClassDesk$Frame" "asideEnd" "I") ∈ am_G := am_in (am_ck3 2 rfl) rfl
theorem gw_3_4 : (Jvm.Cond.lays "ClassDesk$Frame" "ClassDesk$Frame" "awaitsAfters" "Z") ∈ am_G := am_in (am_ck3 4 rfl) rfl
theorem gw_3_7 : (Jvm.Cond.methodLink "ClassDesk$Machine" (162 : Nat) ({ cls := "ClassDesk$Methods", name := "bodyOf", desc := "(I)I" } : Jvm.MethodName)) ∈ am_G := am_in (am_ck3 7 rfl) rfl
theorem gw_3_8 : (Jvm.Cond.instanceMethod ({ cls := "ClassDesk$Methods", name := "bodyOf", desc := "(I)I" } : Jvm.MethodName)) ∈ am_G := am_in (am_ck3 8 rfl) rfl
theorem gw_3_9 : (Jvm.Cond.selects "ClassDesk$Methods" ({ cls := "ClassDesk$Methods", name := "bodyOf", desc := "(I)I" } : Jvm.MethodName) ({ cls := "ClassDesk$Methods", name := "bodyOf", desc := "(I)I" } : Jvm.MethodName)) ∈ am_G := am_in (am_ck3 9 rfl) rfl
theorem gw_3_10 : (Jvm.Cond.code ({ cls := "ClassDesk$Methods", name := "bodyOf", desc := "(I)I" } : Jvm.MethodName) prog_9_method_10_code (2 : Nat) (Option.some Jvm.ClassFile.FieldType.int)) ∈ am_G := am_in (am_ck3 10 rfl) rfl
theorem gw_3_11 : (Jvm.Cond.methodLink "ClassDesk$Machine" (90 : Nat) ({ cls := "ClassDesk$Machine", name := "advance", desc := "(LClassDesk$Frame;)V" } : Jvm.MethodName)) ∈ am_G := am_in (am_ck3 11 rfl) rfl
theorem gw_3_13 : (Jvm.Cond.instanceMethod ({ cls := "ClassDesk$Machine", name := "advance", desc := "(LClassDesk$Frame;)V" } : Jvm.MethodName)) ∈ am_G := am_in (am_ck3 13 rfl) rfl
theorem gw_3_14 : (Jvm.Cond.code ({ cls := "ClassDesk$Machine", name := "advance", desc := "(LClassDesk$Frame;)V" } : Jvm.MethodName) prog_8_method_9_code (2 : Nat) (Option.none : Option Jvm.ClassFile.FieldType)) ∈ am_G := am_in (am_ck3 14 rfl) rfl
theorem gw_3_15 : (Jvm.Cond.methodLink "ClassDesk$Machine" (193 : Nat) ({ cls := "ClassDesk$Bodies", name := "sizeOf", desc := "(I)I" } : Jvm.MethodName)) ∈ am_G := am_in (am_ck3 15 rfl) rfl
theorem gw_3_16 : (Jvm.Cond.instanceMethod ({ cls := "ClassDesk$Bodies", name := "sizeOf", desc := "(I)I" } : Jvm.MethodName)) ∈ am_G := am_in (am_ck3 16 rfl) rfl
theorem gw_3_17 : (Jvm.Cond.selects "ClassDesk$Bodies" ({ cls := "ClassDesk$Bodies", name := "sizeOf", desc := "(I)I" } : Jvm.MethodName) ({ cls := "ClassDesk$Bodies", name := "sizeOf", desc := "(I)I" } : Jvm.MethodName)) ∈ am_G := am_in (am_ck3 17 rfl) rfl
theorem gw_3_18 : (Jvm.Cond.code ({ cls := "ClassDesk$Bodies", name := "sizeOf", desc := "(I)I" } : Jvm.MethodName) prog_2_method_4_code (2 : Nat) (Option.some Jvm.ClassFile.FieldType.int)) ∈ am_G := am_in (am_ck3 18 rfl) rfl
theorem gw_3_19 : (Jvm.Cond.methodLink "ClassDesk$Machine" (198 : Nat) ({ cls := "ClassDesk$Machine", name := "doNextStep", desc := "(LClassDesk$Frame;)V" } : Jvm.MethodName)) ∈ am_G := am_in (am_ck3 19 rfl) rfl
theorem gw_3_21 : (Jvm.Cond.instanceMethod ({ cls := "ClassDesk$Machine", name := "doNextStep", desc := "(LClassDesk$Frame;)V" } : Jvm.MethodName)) ∈ am_G := am_in (am_ck3 21 rfl) rfl
theorem gw_3_22 : (Jvm.Cond.code ({ cls := "ClassDesk$Machine", name := "doNextStep", desc := "(LClassDesk$Frame;)V" } : Jvm.MethodName) prog_8_method_11_code (4 : Nat) (Option.none : Option Jvm.ClassFile.FieldType)) ∈ am_G := am_in (am_ck3 22 rfl) rfl
theorem gw_3_23 : (Jvm.Cond.methodLink "ClassDesk$Machine" (211 : Nat) ({ cls := "ClassDesk$Bodies", name := "opOf", desc := "(II)I" } : Jvm.MethodName)) ∈ am_G := am_in (am_ck3 23 rfl) rfl
theorem gw_3_24 : (Jvm.Cond.instanceMethod ({ cls := "ClassDesk$Bodies", name := "opOf", desc := "(II)I" } : Jvm.MethodName)) ∈ am_G := am_in (am_ck3 24 rfl) rfl
theorem gw_3_25 : (Jvm.Cond.selects "ClassDesk$Bodies" ({ cls := "ClassDesk$Bodies", name := "opOf", desc := "(II)I" } : Jvm.MethodName) ({ cls := "ClassDesk$Bodies", name := "opOf", desc := "(II)I" } : Jvm.MethodName)) ∈ am_G := am_in (am_ck3 25 rfl) rfl
theorem gw_3_26 : (Jvm.Cond.code ({ cls := "ClassDesk$Bodies", name := "opOf", desc := "(II)I" } : Jvm.MethodName) prog_2_method_5_code (3 : Nat) (Option.some Jvm.ClassFile.FieldType.int)) ∈ am_G := am_in (am_ck3 26 rfl) rfl
theorem gw_3_27 : (Jvm.Cond.methodLink "ClassDesk$Machine" (215 : Nat) ({ cls := "ClassDesk$Bodies", name := "operandOf", desc := "(II)I" } : Jvm.MethodName)) ∈ am_G := am_in (am_ck3 27 rfl) rfl
theorem gw_3_28 : (Jvm.Cond.instanceMethod ({ cls := "ClassDesk$Bodies", name := "operandOf", desc := "(II)I" } : Jvm.MethodName)) ∈ am_G := am_in (am_ck3 28 rfl) rfl
theorem gw_3_29 : (Jvm.Cond.selects "ClassDesk$Bodies" ({ cls := "ClassDesk$Bodies", name := "operandOf", desc := "(II)I" } : Jvm.MethodName) ({ cls := "ClassDesk$Bodies", name := "operandOf", desc := "(II)I" } : Jvm.MethodName)) ∈ am_G := am_in (am_ck3 29 rfl) rfl
theorem gw_3_30 : (Jvm.Cond.code ({ cls := "ClassDesk$Bodies", name := "operandOf", desc := "(II)I" } : Jvm.MethodName) prog_2_method_6_code (3 : Nat) (Option.some Jvm.ClassFile.FieldType.int)) ∈ am_G := am_in (am_ck3 30 rfl) rfl
theorem gw_3_31 : (Jvm.Cond.methodLink "ClassDesk$Machine" (218 : Nat) ({ cls := "ClassDesk$Frame", name := "firstArgument", desc := "()I" } : Jvm.MethodName)) ∈ am_G := am_in (am_ck3 31 rfl) rfl
theorem gw_3_32 : (Jvm.Cond.instanceMethod ({ cls := "ClassDesk$Frame", name := "firstArgument", desc := "()I" } : Jvm.MethodName)) ∈ am_G := am_in (am_ck3 32 rfl) rfl
theorem gw_3_33 : (Jvm.Cond.selects "ClassDesk$Frame" ({ cls := "ClassDesk$Frame", name := "firstArgument", desc := "()I" } : Jvm.MethodName) ({ cls := "ClassDesk$Frame", name := "firstArgument", desc := "()I" } : Jvm.MethodName)) ∈ am_G := am_in (am_ck3 33 rfl) rfl
theorem gw_3_34 : (Jvm.Cond.code ({ cls := "ClassDesk$Frame", name := "firstArgument", desc := "()I" } : Jvm.MethodName) prog_5_method_2_code (1 : Nat) (Option.some Jvm.ClassFile.FieldType.int)) ∈ am_G := am_in (am_ck3 34 rfl) rfl
theorem gw_3_35 : (Jvm.Cond.methodLink "ClassDesk$Machine" (221 : Nat) ({ cls := "ClassDesk$Instances", name := "read", desc := "(II)J" } : Jvm.MethodName)) ∈ am_G := am_in (am_ck3 35 rfl) rfl
theorem gw_3_36 : (Jvm.Cond.methodLink "ClassDesk$Machine" (227 : Nat) ({ cls := "ClassDesk$Machine", name := "intOrError", desc := "(J)I" } : Jvm.MethodName)) ∈ am_G := am_in (am_ck3 36 rfl) rfl
theorem gw_3_38 : (Jvm.Cond.instanceMethod ({ cls := "ClassDesk$Machine", name := "intOrError", desc := "(J)I" } : Jvm.MethodName)) ∈ am_G := am_in (am_ck3 38 rfl) rfl
theorem gw_3_39 : (Jvm.Cond.code ({ cls := "ClassDesk$Machine", name := "intOrError", desc := "(J)I" } : Jvm.MethodName) prog_8_method_12_code (3 : Nat) (Option.some Jvm.ClassFile.FieldType.int)) ∈ am_G := am_in (am_ck3 39 rfl) rfl
theorem gw_3_41 : (Jvm.Cond.static ({ cls := "ClassDesk", name := "isError", desc := "(J)Z" } : Jvm.MethodName)) ∈ am_G := am_in (am_ck3 41 rfl) rfl
theorem gw_3_42 : (Jvm.Cond.code ({ cls := "ClassDesk", name := "isError", desc := "(J)Z" } : Jvm.MethodName) prog_1_method_28_code (2 : Nat) (Option.some Jvm.ClassFile.FieldType.boolean)) ∈ am_G := am_in (am_ck3 42 rfl) rfl
theorem gw_3_43 : (Jvm.Cond.constantLong "ClassDesk" (208 : Nat) (2147483647 : Int64)) ∈ am_G := am_in (am_ck3 43 rfl) rfl
theorem gw_3_44 : (Jvm.Cond.constantLong "ClassDesk$Machine" (94 : Nat) (1099511627776 : Int64)) ∈ am_G := am_in (am_ck3 44 rfl) rfl
theorem gw_3_45 : (Jvm.Cond.methodLink "ClassDesk$Machine" (231 : Nat) ({ cls := "ClassDesk$Instances", name := "write", desc := "(III)J" } : Jvm.MethodName)) ∈ am_G := am_in (am_ck3 45 rfl) rfl
theorem gw_3_46 : (Jvm.Cond.methodLink "ClassDesk$Machine" (235 : Nat) ({ cls := "ClassDesk$Machine", name := "openNext", desc := "(LClassDesk$Frame;)V" } : Jvm.MethodName)) ∈ am_G := am_in (am_ck3 46 rfl) rfl
theorem gw_3_48 : (Jvm.Cond.instanceMethod ({ cls := "ClassDesk$Machine", name := "openNext", desc := "(LClassDesk$Frame;)V" } : Jvm.MethodName)) ∈ am_G := am_in (am_ck3 48 rfl) rfl
theorem gw_3_49 : (Jvm.Cond.code ({ cls := "ClassDesk$Machine", name := "openNext", desc := "(LClassDesk$Frame;)V" } : Jvm.MethodName) prog_8_method_13_code (3 : Nat) (Option.none : Option Jvm.ClassFile.FieldType)) ∈ am_G := am_in (am_ck3 49 rfl) rfl
theorem gw_3_50 : (Jvm.Cond.methodLink "ClassDesk$Machine" (238 : Nat) ({ cls := "ClassDesk$Effective", name := "nextPlace", desc := "(I)I" } : Jvm.MethodName)) ∈ am_G := am_in (am_ck3 50 rfl) rfl
theorem gw_3_51 : (Jvm.Cond.instanceMethod ({ cls := "ClassDesk$Effective", name := "nextPlace", desc := "(I)I" } : Jvm.MethodName)) ∈ am_G := am_in (am_ck3 51 rfl) rfl
theorem gw_3_52 : (Jvm.Cond.selects "ClassDesk$Effective" ({ cls := "ClassDesk$Effective", name := "nextPlace", desc := "(I)I" } : Jvm.MethodName) ({ cls := "ClassDesk$Effective", name := "nextPlace", desc := "(I)I" } : Jvm.MethodName)) ∈ am_G := am_in (am_ck3 52 rfl) rfl
theorem gw_3_53 : (Jvm.Cond.code ({ cls := "ClassDesk$Effective", name := "nextPlace", desc := "(I)I" } : Jvm.MethodName) prog_4_method_5_code (2 : Nat) (Option.some Jvm.ClassFile.FieldType.int)) ∈ am_G := am_in (am_ck3 53 rfl) rfl
theorem gw_3_54 : (Jvm.Cond.methodLink "ClassDesk$Machine" (241 : Nat) ({ cls := "ClassDesk$Notes", name := "take", desc := "(I)V" } : Jvm.MethodName)) ∈ am_G := am_in (am_ck3 54 rfl) rfl
theorem gw_3_55 : (Jvm.Cond.instanceMethod ({ cls := "ClassDesk$Notes", name := "take", desc := "(I)V" } : Jvm.MethodName)) ∈ am_G := am_in (am_ck3 55 rfl) rfl
theorem gw_3_56 : (Jvm.Cond.selects "ClassDesk$Notes" ({ cls := "ClassDesk$Notes", name := "take", desc := "(I)V" } : Jvm.MethodName) ({ cls := "ClassDesk$Notes", name := "take", desc := "(I)V" } : Jvm.MethodName)) ∈ am_G := am_in (am_ck3 56 rfl) rfl
theorem gw_3_57 : (Jvm.Cond.code ({ cls := "ClassDesk$Notes", name := "take", desc := "(I)V" } : Jvm.MethodName) prog_10_method_3_code (2 : Nat) (Option.none : Option Jvm.ClassFile.FieldType)) ∈ am_G := am_in (am_ck3 57 rfl) rfl
theorem gw_3_58 : (Jvm.Cond.methodLink "ClassDesk$Notes" (25 : Nat) ({ cls := "java/lang/Math", name := "min", desc := "(II)I" } : Jvm.MethodName)) ∈ am_G := am_in (am_ck3 58 rfl) rfl
theorem gw_3_59 : (Jvm.Cond.static ({ cls := "java/lang/Math", name := "min", desc := "(II)I" } : Jvm.MethodName)) ∈ am_G := am_in (am_ck3 59 rfl) rfl
theorem gw_3_60 : (Jvm.Cond.code ({ cls := "java/lang/Math", name := "min", desc := "(II)I" } : Jvm.MethodName) prog_14_method_69_code (2 : Nat) (Option.some Jvm.ClassFile.FieldType.int)) ∈ am_G := am_in (am_ck3 60 rfl) rfl
theorem gw_3_61 : (Jvm.Cond.methodLink "ClassDesk$Machine" (247 : Nat) ({ cls := "ClassDesk$Machine", name := "wantFrom", desc := "(LClassDesk$Frame;I)V" } : Jvm.MethodName)) ∈ am_G := am_in (am_ck3 61 rfl) rfl
theorem gw_3_63 : (Jvm.Cond.instanceMethod ({ cls := "ClassDesk$Machine", name := "wantFrom", desc := "(LClassDesk$Frame;I)V" } : Jvm.MethodName)) ∈ am_G := am_in (am_ck3 63 rfl) rfl
theorem gw_3_64 : (Jvm.Cond.code ({ cls := "ClassDesk$Machine", name := "wantFrom", desc := "(LClassDesk$Frame;I)V" } : Jvm.MethodName) prog_8_method_14_code (4 : Nat) (Option.none : Option Jvm.ClassFile.FieldType)) ∈ am_G := am_in (am_ck3 64 rfl) rfl
theorem gw_3_65 : (Jvm.Cond.methodLink "ClassDesk$Machine" (261 : Nat) ({ cls := "ClassDesk$Frame", name := "secondArgument", desc := "()I" } : Jvm.MethodName)) ∈ am_G := am_in (am_ck3 65 rfl) rfl
theorem gw_3_66 : (Jvm.Cond.instanceMethod ({ cls := "ClassDesk$Frame", name := "secondArgument", desc := "()I" } : Jvm.MethodName)) ∈ am_G := am_in (am_ck3 66 rfl) rfl
theorem gw_3_67 : (Jvm.Cond.selects "ClassDesk$Frame" ({ cls := "ClassDesk$Frame", name := "secondArgument", desc := "()I" } : Jvm.MethodName) ({ cls := "ClassDesk$Frame", name := "secondArgument", desc := "()I" } : Jvm.MethodName)) ∈ am_G := am_in (am_ck3 67 rfl) rfl
theorem gw_3_68 : (Jvm.Cond.code ({ cls := "ClassDesk$Frame", name := "secondArgument", desc := "()I" } : Jvm.MethodName) prog_5_method_3_code (1 : Nat) (Option.some Jvm.ClassFile.FieldType.int)) ∈ am_G := am_in (am_ck3 68 rfl) rfl
theorem gw_3_69 : (Jvm.Cond.methodLink "ClassDesk$Machine" (251 : Nat) ({ cls := "ClassDesk$Machine", name := "changeClass", desc := "(LClassDesk$Frame;I)V" } : Jvm.MethodName)) ∈ am_G := am_in (am_ck3 69 rfl) rfl
theorem gw_3_71 : (Jvm.Cond.instanceMethod ({ cls := "ClassDesk$Machine", name := "changeClass", desc := "(LClassDesk$Frame;I)V" } : Jvm.MethodName)) ∈ am_G := am_in (am_ck3 71 rfl) rfl
theorem gw_3_72 : (Jvm.Cond.code ({ cls := "ClassDesk$Machine", name := "changeClass", desc := "(LClassDesk$Frame;I)V" } : Jvm.MethodName) prog_8_method_15_code (3 : Nat) (Option.none : Option Jvm.ClassFile.FieldType)) ∈ am_G := am_in (am_ck3 72 rfl) rfl
theorem gw_3_73 : (Jvm.Cond.methodLink "ClassDesk$Machine" (264 : Nat) ({ cls := "ClassDesk$Classes", name := "isThere", desc := "(I)Z" } : Jvm.MethodName)) ∈ am_G := am_in (am_ck3 73 rfl) rfl
theorem gw_3_74 : (Jvm.Cond.methodLink "ClassDesk$Machine" (269 : Nat) ({ cls := "ClassDesk$Instances", name := "changeClass", desc := "(II)V" } : Jvm.MethodName)) ∈ am_G := am_in (am_ck3 74 rfl) rfl
theorem gw_3_75 : (Jvm.Cond.methodLink "ClassDesk$Machine" (254 : Nat) ({ cls := "ClassDesk$Machine", name := "swap", desc := "(LClassDesk$Frame;)V" } : Jvm.MethodName)) ∈ am_G := am_in (am_ck3 75 rfl) rfl
theorem gw_3_77 : (Jvm.Cond.instanceMethod ({ cls := "ClassDesk$Machine", name := "swap", desc := "(LClassDesk$Frame;)V" } : Jvm.MethodName)) ∈ am_G := am_in (am_ck3 77 rfl) rfl
theorem gw_3_78 : (Jvm.Cond.code ({ cls := "ClassDesk$Machine", name := "swap", desc := "(LClassDesk$Frame;)V" } : Jvm.MethodName) prog_8_method_16_code (2 : Nat) (Option.none : Option Jvm.ClassFile.FieldType)) ∈ am_G := am_in (am_ck3 78 rfl) rfl
theorem gw_3_79 : (Jvm.Cond.methodLink "ClassDesk$Machine" (204 : Nat) ({ cls := "ClassDesk$Machine", name := "closeFrame", desc := "(LClassDesk$Frame;)V" } : Jvm.MethodName)) ∈ am_G := am_in (am_ck3 79 rfl) rfl
theorem gw_3_81 : (Jvm.Cond.instanceMethod ({ cls := "ClassDesk$Machine", name := "closeFrame", desc := "(LClassDesk$Frame;)V" } : Jvm.MethodName)) ∈ am_G := am_in (am_ck3 81 rfl) rfl
theorem gw_3_82 : (Jvm.Cond.code ({ cls := "ClassDesk$Machine", name := "closeFrame", desc := "(LClassDesk$Frame;)V" } : Jvm.MethodName) prog_8_method_10_code (3 : Nat) (Option.none : Option Jvm.ClassFile.FieldType)) ∈ am_G := am_in (am_ck3 82 rfl) rfl
theorem gw_3_83 : (Jvm.Cond.methodLink "ClassDesk$Machine" (207 : Nat) ({ cls := "ClassDesk$Effective", name := "isAside", desc := "(I)Z" } : Jvm.MethodName)) ∈ am_G := am_in (am_ck3 83 rfl) rfl
theorem gw_3_84 : (Jvm.Cond.instanceMethod ({ cls := "ClassDesk$Effective", name := "isAside", desc := "(I)Z" } : Jvm.MethodName)) ∈ am_G := am_in (am_ck3 84 rfl) rfl
theorem gw_3_85 : (Jvm.Cond.selects "ClassDesk$Effective" ({ cls := "ClassDesk$Effective", name := "isAside", desc := "(I)Z" } : Jvm.MethodName) ({ cls := "ClassDesk$Effective", name := "isAside", desc := "(I)Z" } : Jvm.MethodName)) ∈ am_G := am_in (am_ck3 85 rfl) rfl
theorem gw_3_86 : (Jvm.Cond.code ({ cls := "ClassDesk$Effective", name := "isAside", desc := "(I)Z" } : Jvm.MethodName) prog_4_method_6_code (2 : Nat) (Option.some Jvm.ClassFile.FieldType.boolean)) ∈ am_G := am_in (am_ck3 86 rfl) rfl
theorem gw_3_87 : (Jvm.Cond.methodLink "ClassDesk" (164 : Nat) ({ cls := "ClassDesk", name := "isError", desc := "(J)Z" } : Jvm.MethodName)) ∈ am_G := am_in (am_ck3 87 rfl) rfl
theorem gw_3_88 : (Jvm.Cond.methodLink "ClassDeskLaw" (72 : Nat) ({ cls := "ClassDesk", name := "precedence", desc := "(II)I" } : Jvm.MethodName)) ∈ am_G := am_in (am_ck3 88 rfl) rfl
theorem gw_3_89 : (Jvm.Cond.instanceMethod ({ cls := "ClassDesk", name := "precedence", desc := "(II)I" } : Jvm.MethodName)) ∈ am_G := am_in (am_ck3 89 rfl) rfl
theorem gw_3_90 : (Jvm.Cond.selects "ClassDesk" ({ cls := "ClassDesk", name := "precedence", desc := "(II)I" } : Jvm.MethodName) ({ cls := "ClassDesk", name := "precedence", desc := "(II)I" } : Jvm.MethodName)) ∈ am_G := am_in (am_ck3 90 rfl) rfl
theorem gw_3_91 : (Jvm.Cond.code ({ cls := "ClassDesk", name := "precedence", desc := "(II)I" } : Jvm.MethodName) prog_1_method_15_code (3 : Nat) (Option.some Jvm.ClassFile.FieldType.int)) ∈ am_G := am_in (am_ck3 91 rfl) rfl
theorem gw_3_92 : (Jvm.Cond.methodLink "ClassDesk" (168 : Nat) ({ cls := "ClassDesk$Classes", name := "inPrecedence", desc := "(II)I" } : Jvm.MethodName)) ∈ am_G := am_in (am_ck3 92 rfl) rfl
theorem gw_3_93 : (Jvm.Cond.instanceMethod ({ cls := "ClassDesk$Classes", name := "inPrecedence", desc := "(II)I" } : Jvm.MethodName)) ∈ am_G := am_in (am_ck3 93 rfl) rfl
theorem gw_3_94 : (Jvm.Cond.selects "ClassDesk$Classes" ({ cls := "ClassDesk$Classes", name := "inPrecedence", desc := "(II)I" } : Jvm.MethodName) ({ cls := "ClassDesk$Classes", name := "inPrecedence", desc := "(II)I" } : Jvm.MethodName)) ∈ am_G := am_in (am_ck3 94 rfl) rfl
theorem gw_3_95 : (Jvm.Cond.code ({ cls := "ClassDesk$Classes", name := "inPrecedence", desc := "(II)I" } : Jvm.MethodName) prog_3_method_17_code (3 : Nat) (Option.some Jvm.ClassFile.FieldType.int)) ∈ am_G := am_in (am_ck3 95 rfl) rfl
theorem gw_3_96 : (Jvm.Cond.methodLink "ClassDeskLaw" (76 : Nat) ({ cls := "ClassDesk", name := "has", desc := "(II)I" } : Jvm.MethodName)) ∈ am_G := am_in (am_ck3 96 rfl) rfl
theorem gw_3_97 : (Jvm.Cond.instanceMethod ({ cls := "ClassDesk", name := "has", desc := "(II)I" } : Jvm.MethodName)) ∈ am_G := am_in (am_ck3 97 rfl) rfl
theorem gw_3_98 : (Jvm.Cond.selects "ClassDesk" ({ cls := "ClassDesk", name := "has", desc := "(II)I" } : Jvm.MethodName) ({ cls := "ClassDesk", name := "has", desc := "(II)I" } : Jvm.MethodName)) ∈ am_G := am_in (am_ck3 98 rfl) rfl
theorem gw_3_99 : (Jvm.Cond.code ({ cls := "ClassDesk", name := "has", desc := "(II)I" } : Jvm.MethodName) prog_1_method_16_code (3 : Nat) (Option.some Jvm.ClassFile.FieldType.int)) ∈ am_G := am_in (am_ck3 99 rfl) rfl
theorem gw_3_100 : (Jvm.Cond.methodLink "ClassDesk" (171 : Nat) ({ cls := "ClassDesk$Classes", name := "holder", desc := "(II)I" } : Jvm.MethodName)) ∈ am_G := am_in (am_ck3 100 rfl) rfl
theorem gw_3_101 : (Jvm.Cond.methodLink "ClassDeskLaw" (80 : Nat) ({ cls := "ClassDesk", name := "look", desc := "(II)I" } : Jvm.MethodName)) ∈ am_G := am_in (am_ck3 101 rfl) rfl
theorem gw_3_102 : (Jvm.Cond.instanceMethod ({ cls := "ClassDesk", name := "look", desc := "(II)I" } : Jvm.MethodName)) ∈ am_G := am_in (am_ck3 102 rfl) rfl
theorem gw_3_103 : (Jvm.Cond.selects "ClassDesk" ({ cls := "ClassDesk", name := "look", desc := "(II)I" } : Jvm.MethodName) ({ cls := "ClassDesk", name := "look", desc := "(II)I" } : Jvm.MethodName)) ∈ am_G := am_in (am_ck3 103 rfl) rfl
theorem gw_3_104 : (Jvm.Cond.code ({ cls := "ClassDesk", name := "look", desc := "(II)I" } : Jvm.MethodName) prog_1_method_17_code (3 : Nat) (Option.some Jvm.ClassFile.FieldType.int)) ∈ am_G := am_in (am_ck3 104 rfl) rfl
theorem gw_3_105 : (Jvm.Cond.methodLink "ClassDesk" (174 : Nat) ({ cls := "ClassDesk$Instances", name := "classOf", desc := "(I)I" } : Jvm.MethodName)) ∈ am_G := am_in (am_ck3 105 rfl) rfl
theorem gw_3_106 : (Jvm.Cond.methodLink "ClassDesk" (177 : Nat) ({ cls := "ClassDesk$Instances", name := "layoutOf", desc := "(I)I" } : Jvm.MethodName)) ∈ am_G := am_in (am_ck3 106 rfl) rfl
theorem gw_3_107 : (Jvm.Cond.instanceMethod ({ cls := "ClassDesk$Instances", name := "layoutOf", desc := "(I)I" } : Jvm.MethodName)) ∈ am_G := am_in (am_ck3 107 rfl) rfl
theorem gw_3_108 : (Jvm.Cond.selects "ClassDesk$Instances" ({ cls := "ClassDesk$Instances", name := "layoutOf", desc := "(I)I" } : Jvm.MethodName) ({ cls := "ClassDesk$Instances", name := "layoutOf", desc := "(I)I" } : Jvm.MethodName)) ∈ am_G := am_in (am_ck3 108 rfl) rfl
theorem gw_3_109 : (Jvm.Cond.code ({ cls := "ClassDesk$Instances", name := "layoutOf", desc := "(I)I" } : Jvm.MethodName) prog_6_method_6_code (2 : Nat) (Option.some Jvm.ClassFile.FieldType.int)) ∈ am_G := am_in (am_ck3 109 rfl) rfl
theorem gw_3_110 : (Jvm.Cond.methodLink "ClassDesk" (180 : Nat) ({ cls := "ClassDesk$Instances", name := "valuesOf", desc := "(I)I" } : Jvm.MethodName)) ∈ am_G := am_in (am_ck3 110 rfl) rfl
theorem gw_3_111 : (Jvm.Cond.instanceMethod ({ cls := "ClassDesk$Instances", name := "valuesOf", desc := "(I)I" } : Jvm.MethodName)) ∈ am_G := am_in (am_ck3 111 rfl) rfl
theorem gw_3_112 : (Jvm.Cond.selects "ClassDesk$Instances" ({ cls := "ClassDesk$Instances", name := "valuesOf", desc := "(I)I" } : Jvm.MethodName) ({ cls := "ClassDesk$Instances", name := "valuesOf", desc := "(I)I" } : Jvm.MethodName)) ∈ am_G := am_in (am_ck3 112 rfl) rfl
theorem gw_3_113 : (Jvm.Cond.code ({ cls := "ClassDesk$Instances", name := "valuesOf", desc := "(I)I" } : Jvm.MethodName) prog_6_method_7_code (2 : Nat) (Option.some Jvm.ClassFile.FieldType.int)) ∈ am_G := am_in (am_ck3 113 rfl) rfl
theorem gw_3_114 : (Jvm.Cond.methodLink "ClassDeskLaw" (84 : Nat) ({ cls := "ClassDesk", name := "noted", desc := "(I)I" } : Jvm.MethodName)) ∈ am_G := am_in (am_ck3 114 rfl) rfl
theorem gw_3_115 : (Jvm.Cond.instanceMethod ({ cls := "ClassDesk", name := "noted", desc := "(I)I" } : Jvm.MethodName)) ∈ am_G := am_in (am_ck3 115 rfl) rfl
theorem gw_3_116 : (Jvm.Cond.selects "ClassDesk" ({ cls := "ClassDesk", name := "noted", desc := "(I)I" } : Jvm.MethodName) ({ cls := "ClassDesk", name := "noted", desc := "(I)I" } : Jvm.MethodName)) ∈ am_G := am_in (am_ck3 116 rfl) rfl
theorem gw_3_117 : (Jvm.Cond.code ({ cls := "ClassDesk", name := "noted", desc := "(I)I" } : Jvm.MethodName) prog_1_method_18_code (2 : Nat) (Option.some Jvm.ClassFile.FieldType.int)) ∈ am_G := am_in (am_ck3 117 rfl) rfl
theorem gw_3_118 : (Jvm.Cond.methodLink "ClassDesk" (183 : Nat) ({ cls := "ClassDesk$Notes", name := "beforeLatest", desc := "(I)I" } : Jvm.MethodName)) ∈ am_G := am_in (am_ck3 118 rfl) rfl
theorem gw_3_119 : (Jvm.Cond.instanceMethod ({ cls := "ClassDesk$Notes", name := "beforeLatest", desc := "(I)I" } : Jvm.MethodName)) ∈ am_G := am_in (am_ck3 119 rfl) rfl
theorem gw_3_120 : (Jvm.Cond.selects "ClassDesk$Notes" ({ cls := "ClassDesk$Notes", name := "beforeLatest", desc := "(I)I" } : Jvm.MethodName) ({ cls := "ClassDesk$Notes", name := "beforeLatest", desc := "(I)I" } : Jvm.MethodName)) ∈ am_G := am_in (am_ck3 120 rfl) rfl
theorem gw_3_121 : (Jvm.Cond.code ({ cls := "ClassDesk$Notes", name := "beforeLatest", desc := "(I)I" } : Jvm.MethodName) prog_10_method_4_code (2 : Nat) (Option.some Jvm.ClassFile.FieldType.int)) ∈ am_G := am_in (am_ck3 121 rfl) rfl
theorem gw_3_123 : (Jvm.Cond.methodLink "ClassDeskLaw" (88 : Nat) ({ cls := "ClassDesk", name := "count", desc := "(I)I" } : Jvm.MethodName)) ∈ am_G := am_in (am_ck3 123 rfl) rfl
theorem gw_3_124 : (Jvm.Cond.instanceMethod ({ cls := "ClassDesk", name := "count", desc := "(I)I" } : Jvm.MethodName)) ∈ am_G := am_in (am_ck3 124 rfl) rfl
theorem gw_3_125 : (Jvm.Cond.selects "ClassDesk" ({ cls := "ClassDesk", name := "count", desc := "(I)I" } : Jvm.MethodName) ({ cls := "ClassDesk", name := "count", desc := "(I)I" } : Jvm.MethodName)) ∈ am_G := am_in (am_ck3 125 rfl) rfl
theorem gw_3_126 : (Jvm.Cond.code ({ cls := "ClassDesk", name := "count", desc := "(I)I" } : Jvm.MethodName) prog_1_method_19_code (2 : Nat) (Option.some Jvm.ClassFile.FieldType.int)) ∈ am_G := am_in (am_ck3 126 rfl) rfl
theorem gw_3_127 : (Jvm.Cond.methodLink "ClassDesk" (186 : Nat) ({ cls := "ClassDesk$Classes", name := "total", desc := "()I" } : Jvm.MethodName)) ∈ am_G := am_in (am_ck3 127 rfl) rfl
theorem gw_3_128 : (Jvm.Cond.instanceMethod ({ cls := "ClassDesk$Classes", name := "total", desc := "()I" } : Jvm.MethodName)) ∈ am_G := am_in (am_ck3 128 rfl) rfl
theorem gw_3_129 : (Jvm.Cond.selects "ClassDesk$Classes" ({ cls := "ClassDesk$Classes", name := "total", desc := "()I" } : Jvm.MethodName) ({ cls := "ClassDesk$Classes", name := "total", desc := "()I" } : Jvm.MethodName)) ∈ am_G := am_in (am_ck3 129 rfl) rfl
theorem gw_3_130 : (Jvm.Cond.code ({ cls := "ClassDesk$Classes", name := "total", desc := "()I" } : Jvm.MethodName) prog_3_method_3_code (1 : Nat) (Option.some Jvm.ClassFile.FieldType.int)) ∈ am_G := am_in (am_ck3 130 rfl) rfl
theorem gw_3_131 : (Jvm.Cond.methodLink "ClassDesk" (190 : Nat) ({ cls := "ClassDesk$Instances", name := "total", desc := "()I" } : Jvm.MethodName)) ∈ am_G := am_in (am_ck3 131 rfl) rfl
theorem gw_3_132 : (Jvm.Cond.instanceMethod ({ cls := "ClassDesk$Instances", name := "total", desc := "()I" } : Jvm.MethodName)) ∈ am_G := am_in (am_ck3 132 rfl) rfl
theorem gw_3_133 : (Jvm.Cond.selects "ClassDesk$Instances" ({ cls := "ClassDesk$Instances", name := "total", desc := "()I" } : Jvm.MethodName) ({ cls := "ClassDesk$Instances", name := "total", desc := "()I" } : Jvm.MethodName)) ∈ am_G := am_in (am_ck3 133 rfl) rfl
theorem gw_3_134 : (Jvm.Cond.code ({ cls := "ClassDesk$Instances", name := "total", desc := "()I" } : Jvm.MethodName) prog_6_method_2_code (1 : Nat) (Option.some Jvm.ClassFile.FieldType.int)) ∈ am_G := am_in (am_ck3 134 rfl) rfl
theorem gw_3_135 : (Jvm.Cond.methodLink "ClassDesk" (191 : Nat) ({ cls := "ClassDesk$Methods", name := "total", desc := "()I" } : Jvm.MethodName)) ∈ am_G := am_in (am_ck3 135 rfl) rfl
theorem gw_3_136 : (Jvm.Cond.instanceMethod ({ cls := "ClassDesk$Methods", name := "total", desc := "()I" } : Jvm.MethodName)) ∈ am_G := am_in (am_ck3 136 rfl) rfl
theorem gw_3_137 : (Jvm.Cond.selects "ClassDesk$Methods" ({ cls := "ClassDesk$Methods", name := "total", desc := "()I" } : Jvm.MethodName) ({ cls := "ClassDesk$Methods", name := "total", desc := "()I" } : Jvm.MethodName)) ∈ am_G := am_in (am_ck3 137 rfl) rfl
theorem gw_3_138 : (Jvm.Cond.code ({ cls := "ClassDesk$Methods", name := "total", desc := "()I" } : Jvm.MethodName) prog_9_method_2_code (1 : Nat) (Option.some Jvm.ClassFile.FieldType.int)) ∈ am_G := am_in (am_ck3 138 rfl) rfl
theorem gw_3_139 : (Jvm.Cond.methodLink "ClassDesk" (192 : Nat) ({ cls := "ClassDesk$Notes", name := "total", desc := "()I" } : Jvm.MethodName)) ∈ am_G := am_in (am_ck3 139 rfl) rfl
theorem gw_3_140 : (Jvm.Cond.instanceMethod ({ cls := "ClassDesk$Notes", name := "total", desc := "()I" } : Jvm.MethodName)) ∈ am_G := am_in (am_ck3 140 rfl) rfl
theorem gw_3_141 : (Jvm.Cond.selects "ClassDesk$Notes" ({ cls := "ClassDesk$Notes", name := "total", desc := "()I" } : Jvm.MethodName) ({ cls := "ClassDesk$Notes", name := "total", desc := "()I" } : Jvm.MethodName)) ∈ am_G := am_in (am_ck3 141 rfl) rfl
theorem gw_3_142 : (Jvm.Cond.code ({ cls := "ClassDesk$Notes", name := "total", desc := "()I" } : Jvm.MethodName) prog_10_method_2_code (1 : Nat) (Option.some Jvm.ClassFile.FieldType.int)) ∈ am_G := am_in (am_ck3 142 rfl) rfl
theorem gw_3_143 : (Jvm.Cond.methodLink "ClassDesk" (193 : Nat) ({ cls := "ClassDesk$Machine", name := "bodiesCalled", desc := "()I" } : Jvm.MethodName)) ∈ am_G := am_in (am_ck3 143 rfl) rfl
theorem gw_3_144 : (Jvm.Cond.instanceMethod ({ cls := "ClassDesk$Machine", name := "bodiesCalled", desc := "()I" } : Jvm.MethodName)) ∈ am_G := am_in (am_ck3 144 rfl) rfl
theorem gw_3_145 : (Jvm.Cond.selects "ClassDesk$Machine" ({ cls := "ClassDesk$Machine", name := "bodiesCalled", desc := "()I" } : Jvm.MethodName) ({ cls := "ClassDesk$Machine", name := "bodiesCalled", desc := "()I" } : Jvm.MethodName)) ∈ am_G := am_in (am_ck3 145 rfl) rfl
theorem gw_3_146 : (Jvm.Cond.code ({ cls := "ClassDesk$Machine", name := "bodiesCalled", desc := "()I" } : Jvm.MethodName) prog_8_method_2_code (1 : Nat) (Option.some Jvm.ClassFile.FieldType.int)) ∈ am_G := am_in (am_ck3 146 rfl) rfl
theorem gw_3_147 : (Jvm.Cond.methodLink "ClassDesk" (196 : Nat) ({ cls := "ClassDesk$Keeper", name := "timesFound", desc := "()I" } : Jvm.MethodName)) ∈ am_G := am_in (am_ck3 147 rfl) rfl
theorem gw_3_148 : (Jvm.Cond.instanceMethod ({ cls := "ClassDesk$Keeper", name := "timesFound", desc := "()I" } : Jvm.MethodName)) ∈ am_G := am_in (am_ck3 148 rfl) rfl
theorem gw_3_149 : (Jvm.Cond.selects "ClassDesk$Keeper" ({ cls := "ClassDesk$Keeper", name := "timesFound", desc := "()I" } : Jvm.MethodName) ({ cls := "ClassDesk$Keeper", name := "timesFound", desc := "()I" } : Jvm.MethodName)) ∈ am_G := am_in (am_ck3 149 rfl) rfl
theorem gw_3_150 : (Jvm.Cond.code ({ cls := "ClassDesk$Keeper", name := "timesFound", desc := "()I" } : Jvm.MethodName) prog_7_method_2_code (1 : Nat) (Option.some Jvm.ClassFile.FieldType.int)) ∈ am_G := am_in (am_ck3 150 rfl) rfl
theorem gw_3_151 : (Jvm.Cond.methodLink "ClassDesk" (199 : Nat) ({ cls := "ClassDesk$Keeper", name := "total", desc := "()I" } : Jvm.MethodName)) ∈ am_G := am_in (am_ck3 151 rfl) rfl
theorem gw_3_152 : (Jvm.Cond.instanceMethod ({ cls := "ClassDesk$Keeper", name := "total", desc := "()I" } : Jvm.MethodName)) ∈ am_G := am_in (am_ck3 152 rfl) rfl
theorem gw_3_153 : (Jvm.Cond.selects "ClassDesk$Keeper" ({ cls := "ClassDesk$Keeper", name := "total", desc := "()I" } : Jvm.MethodName) ({ cls := "ClassDesk$Keeper", name := "total", desc := "()I" } : Jvm.MethodName)) ∈ am_G := am_in (am_ck3 153 rfl) rfl
theorem gw_3_154 : (Jvm.Cond.code ({ cls := "ClassDesk$Keeper", name := "total", desc := "()I" } : Jvm.MethodName) prog_7_method_3_code (3 : Nat) (Option.some Jvm.ClassFile.FieldType.int)) ∈ am_G := am_in (am_ck3 154 rfl) rfl
theorem gw_3_155 : (Jvm.Cond.methodLink "ClassDesk" (200 : Nat) ({ cls := "ClassDesk$Instances", name := "layoutChanges", desc := "()I" } : Jvm.MethodName)) ∈ am_G := am_in (am_ck3 155 rfl) rfl
theorem gw_3_156 : (Jvm.Cond.instanceMethod ({ cls := "ClassDesk$Instances", name := "layoutChanges", desc := "()I" } : Jvm.MethodName)) ∈ am_G := am_in (am_ck3 156 rfl) rfl
theorem gw_3_157 : (Jvm.Cond.selects "ClassDesk$Instances" ({ cls := "ClassDesk$Instances", name := "layoutChanges", desc := "()I" } : Jvm.MethodName) ({ cls := "ClassDesk$Instances", name := "layoutChanges", desc := "()I" } : Jvm.MethodName)) ∈ am_G := am_in (am_ck3 157 rfl) rfl
theorem gw_3_158 : (Jvm.Cond.code ({ cls := "ClassDesk$Instances", name := "layoutChanges", desc := "()I" } : Jvm.MethodName) prog_6_method_3_code (1 : Nat) (Option.some Jvm.ClassFile.FieldType.int)) ∈ am_G := am_in (am_ck3 158 rfl) rfl
theorem gw_3_159 : (Jvm.Cond.methodLink "ClassDesk" (203 : Nat) ({ cls := "ClassDesk$Machine", name := "stepsDone", desc := "()I" } : Jvm.MethodName)) ∈ am_G := am_in (am_ck3 159 rfl) rfl
theorem gw_3_160 : (Jvm.Cond.instanceMethod ({ cls := "ClassDesk$Machine", name := "stepsDone", desc := "()I" } : Jvm.MethodName)) ∈ am_G := am_in (am_ck3 160 rfl) rfl
theorem gw_3_161 : (Jvm.Cond.selects "ClassDesk$Machine" ({ cls := "ClassDesk$Machine", name := "stepsDone", desc := "()I" } : Jvm.MethodName) ({ cls := "ClassDesk$Machine", name := "stepsDone", desc := "()I" } : Jvm.MethodName)) ∈ am_G := am_in (am_ck3 161 rfl) rfl
theorem gw_3_162 : (Jvm.Cond.code ({ cls := "ClassDesk$Machine", name := "stepsDone", desc := "()I" } : Jvm.MethodName) prog_8_method_3_code (1 : Nat) (Option.some Jvm.ClassFile.FieldType.int)) ∈ am_G := am_in (am_ck3 162 rfl) rfl
theorem gw_3_163 : (Jvm.Cond.classLink "ClassDeskLaw" (10 : Nat) "ClassDeskModel") ∈ am_G := am_in (am_ck3 163 rfl) rfl
theorem gw_3_164 : (Jvm.Cond.instantiable "ClassDeskModel" (43 : Nat)) ∈ am_G := am_in (am_ck3 164 rfl) rfl
theorem gw_3_165 : (Jvm.Cond.methodLink "ClassDeskLaw" (12 : Nat) ({ cls := "ClassDeskModel", name := "<init>", desc := "()V" } : Jvm.MethodName)) ∈ am_G := am_in (am_ck3 165 rfl) rfl
theorem gw_3_166 : (Jvm.Cond.instanceMethod ({ cls := "ClassDeskModel", name := "<init>", desc := "()V" } : Jvm.MethodName)) ∈ am_G := am_in (am_ck3 166 rfl) rfl
theorem gw_3_167 : (Jvm.Cond.code ({ cls := "ClassDeskModel", name := "<init>", desc := "()V" } : Jvm.MethodName) prog_13_method_1_code (2 : Nat) (Option.none : Option Jvm.ClassFile.FieldType)) ∈ am_G := am_in (am_ck3 167 rfl) rfl
theorem gw_3_168 : (Jvm.Cond.methodLink "ClassDeskModel" (1 : Nat) ({ cls := "java/lang/Object", name := "<init>", desc := "()V" } : Jvm.MethodName)) ∈ am_G := am_in (am_ck3 168 rfl) rfl
theorem gw_3_169 : (Jvm.Cond.fieldLink "ClassDeskModel" (7 : Nat) "ClassDeskModel" "there" "[Z") ∈ am_G := am_in (am_ck3 169 rfl) rfl
theorem gw_3_170 : (Jvm.Cond.fieldLink "ClassDeskModel" (13 : Nat) "ClassDeskModel" "supers" "[I") ∈ am_G := am_in (am_ck3 170 rfl) rfl
theorem gw_3_171 : (Jvm.Cond.fieldLink "ClassDeskModel" (17 : Nat) "ClassDeskModel" "rows" "[I") ∈ am_G := am_in (am_ck3 171 rfl) rfl
theorem gw_3_172 : (Jvm.Cond.fieldLink "ClassDeskModel" (20 : Nat) "ClassDeskModel" "rowLength" "[I") ∈ am_G := am_in (am_ck3 172 rfl) rfl
theorem gw_3_173 : (Jvm.Cond.fieldLink "ClassDeskModel" (23 : Nat) "ClassDeskModel" "trial" "[I") ∈ am_G := am_in (am_ck3 173 rfl) rfl
theorem gw_3_174 : (Jvm.Cond.fieldLink "ClassDeskModel" (26 : Nat) "ClassDeskModel" "row" "[I") ∈ am_G := am_in (am_ck3 174 rfl) rfl
theorem gw_3_175 : (Jvm.Cond.fieldLink "ClassDeskModel" (29 : Nat) "ClassDeskModel" "how" "[I") ∈ am_G := am_in (am_ck3 175 rfl) rfl
theorem gw_3_176 : (Jvm.Cond.fieldLink "ClassDeskModel" (32 : Nat) "ClassDeskModel" "initial" "[I") ∈ am_G := am_in (am_ck3 176 rfl) rfl
theorem gw_3_177 : (Jvm.Cond.fieldLink "ClassDeskModel" (35 : Nat) "ClassDeskModel" "classOf" "[I") ∈ am_G := am_in (am_ck3 177 rfl) rfl
theorem gw_3_178 : (Jvm.Cond.fieldLink "ClassDeskModel" (38 : Nat) "ClassDeskModel" "layout" "[I") ∈ am_G := am_in (am_ck3 178 rfl) rfl
theorem gw_3_179 : (Jvm.Cond.fieldLink "ClassDeskModel" (41 : Nat) "ClassDeskModel" "valued" "[I") ∈ am_G := am_in (am_ck3 179 rfl) rfl
theorem gw_3_180 : (Jvm.Cond.fieldLink "ClassDeskModel" (44 : Nat) "ClassDeskModel" "values" "[I") ∈ am_G := am_in (am_ck3 180 rfl) rfl
theorem gw_3_181 : (Jvm.Cond.fieldLink "ClassDeskModel" (47 : Nat) "ClassDeskModel" "params" "[I") ∈ am_G := am_in (am_ck3 181 rfl) rfl
theorem gw_3_182 : (Jvm.Cond.fieldLink "ClassDeskModel" (50 : Nat) "ClassDeskModel" "mGeneric" "[I") ∈ am_G := am_in (am_ck3 182 rfl) rfl
theorem gw_3_183 : (Jvm.Cond.fieldLink "ClassDeskModel" (53 : Nat) "ClassDeskModel" "mKind" "[I") ∈ am_G := am_in (am_ck3 183 rfl) rfl
theorem gw_3_184 : (Jvm.Cond.fieldLink "ClassDeskModel" (56 : Nat) "ClassDeskModel" "mFirst" "[I") ∈ am_G := am_in (am_ck3 184 rfl) rfl
theorem gw_3_185 : (Jvm.Cond.fieldLink "ClassDeskModel" (59 : Nat) "ClassDeskModel" "mSecond" "[I") ∈ am_G := am_in (am_ck3 185 rfl) rfl
theorem gw_3_186 : (Jvm.Cond.fieldLink "ClassDeskModel" (62 : Nat) "ClassDeskModel" "mBody" "[I") ∈ am_G := am_in (am_ck3 186 rfl) rfl
theorem gw_3_187 : (Jvm.Cond.fieldLink "ClassDeskModel" (65 : Nat) "ClassDeskModel" "ops" "[I") ∈ am_G := am_in (am_ck3 187 rfl) rfl
theorem gw_3_188 : (Jvm.Cond.fieldLink "ClassDeskModel" (68 : Nat) "ClassDeskModel" "args" "[I") ∈ am_G := am_in (am_ck3 188 rfl) rfl
theorem gw_3_189 : (Jvm.Cond.fieldLink "ClassDeskModel" (71 : Nat) "ClassDeskModel" "lengths" "[I") ∈ am_G := am_in (am_ck3 189 rfl) rfl
theorem gw_3_190 : (Jvm.Cond.fieldLink "ClassDeskModel" (74 : Nat) "ClassDeskModel" "kept" "[Z") ∈ am_G := am_in (am_ck3 190 rfl) rfl
theorem gw_3_191 : (Jvm.Cond.fieldLink "ClassDeskModel" (77 : Nat) "ClassDeskModel" "rank" "[I") ∈ am_G := am_in (am_ck3 191 rfl) rfl
theorem gw_3_192 : (Jvm.Cond.fieldLink "ClassDeskModel" (80 : Nat) "ClassDeskModel" "many" "[I") ∈ am_G := am_in (am_ck3 192 rfl) rfl
theorem gw_3_193 : (Jvm.Cond.fieldLink "ClassDeskModel" (83 : Nat) "ClassDeskModel" "gFirst" "[I") ∈ am_G := am_in (am_ck3 193 rfl) rfl
theorem gw_3_194 : (Jvm.Cond.fieldLink "ClassDeskModel" (86 : Nat) "ClassDeskModel" "gSecond" "[I") ∈ am_G := am_in (am_ck3 194 rfl) rfl
theorem gw_3_195 : (Jvm.Cond.fieldLink "ClassDeskModel" (89 : Nat) "ClassDeskModel" "gNumber" "[I") ∈ am_G := am_in (am_ck3 195 rfl) rfl
theorem gw_3_196 : (Jvm.Cond.fieldLink "ClassDeskModel" (92 : Nat) "ClassDeskModel" "fLevel" "[I") ∈ am_G := am_in (am_ck3 196 rfl) rfl
theorem gw_3_197 : (Jvm.Cond.fieldLink "ClassDeskModel" (95 : Nat) "ClassDeskModel" "fKind" "[I") ∈ am_G := am_in (am_ck3 197 rfl) rfl
theorem gw_3_198 : (Jvm.Cond.fieldLink "ClassDeskModel" (98 : Nat) "ClassDeskModel" "fPlace" "[I") ∈ am_G := am_in (am_ck3 198 rfl) rfl
theorem gw_3_199 : (Jvm.Cond.fieldLink "ClassDeskModel" (101 : Nat) "ClassDeskModel" "fStep" "[I") ∈ am_G := am_in (am_ck3 199 rfl) rfl
theorem gw_3_200 : (Jvm.Cond.fieldLink "ClassDeskModel" (104 : Nat) "ClassDeskModel" "fX" "[I") ∈ am_G := am_in (am_ck3 200 rfl) rfl
theorem gw_3_201 : (Jvm.Cond.fieldLink "ClassDeskModel" (107 : Nat) "ClassDeskModel" "fA" "[I") ∈ am_G := am_in (am_ck3 201 rfl) rfl
theorem gw_3_202 : (Jvm.Cond.fieldLink "ClassDeskModel" (110 : Nat) "ClassDeskModel" "fB" "[I") ∈ am_G := am_in (am_ck3 202 rfl) rfl
theorem gw_3_203 : (Jvm.Cond.fieldLink "ClassDeskModel" (113 : Nat) "ClassDeskModel" "fBody" "[I") ∈ am_G := am_in (am_ck3 203 rfl) rfl
theorem gw_3_204 : (Jvm.Cond.fieldLink "ClassDeskModel" (116 : Nat) "ClassDeskModel" "notes" "[I") ∈ am_G := am_in (am_ck3 204 rfl) rfl
theorem gw_3_205 : (Jvm.Cond.fieldLink "ClassDeskModel" (119 : Nat) "ClassDeskModel" "counts" "[I") ∈ am_G := am_in (am_ck3 205 rfl) rfl
theorem gw_3_206 : (Jvm.Cond.fieldLink "ClassDeskModel" (126 : Nat) "ClassDeskModel" "instances" "I") ∈ am_G := am_in (am_ck3 206 rfl) rfl
theorem gw_3_207 : (Jvm.Cond.fieldLink "ClassDeskModel" (183 : Nat) "ClassDeskModel" "level" "I") ∈ am_G := am_in (am_ck3 207 rfl) rfl
theorem gw_3_208 : (Jvm.Cond.fieldLink "ClassDeskModel" (204 : Nat) "ClassDeskModel" "top" "I") ∈ am_G := am_in (am_ck3 208 rfl) rfl
theorem gw_3_209 : (Jvm.Cond.fieldLink "ClassDeskModel" (165 : Nat) "ClassDeskModel" "error" "I") ∈ am_G := am_in (am_ck3 209 rfl) rfl
theorem gw_3_210 : (Jvm.Cond.fieldLink "ClassDeskModel" (220 : Nat) "ClassDeskModel" "steps" "I") ∈ am_G := am_in (am_ck3 210 rfl) rfl
theorem gw_3_211 : (Jvm.Cond.fieldLink "ClassDeskModel" (210 : Nat) "ClassDeskModel" "answer" "J") ∈ am_G := am_in (am_ck3 211 rfl) rfl
theorem gw_3_212 : (Jvm.Cond.laysFinal "ClassDeskModel" "ClassDeskModel" "there" "[Z") ∈ am_G := am_in (am_ck3 212 rfl) rfl
theorem gw_3_214 : (Jvm.Cond.laysFinal "ClassDeskModel" "ClassDeskModel" "supers" "[I") ∈ am_G := am_in (am_ck3 214 rfl) rfl
theorem gw_3_216 : (Jvm.Cond.laysFinal "ClassDeskModel" "ClassDeskModel" "rows" "[I") ∈ am_G := am_in (am_ck3 216 rfl) rfl
theorem gw_3_218 : (Jvm.Cond.laysFinal "ClassDeskModel" "ClassDeskModel" "rowLength" "[I") ∈ am_G := am_in (am_ck3 218 rfl) rfl
theorem gw_3_220 : (Jvm.Cond.laysFinal "ClassDeskModel" "ClassDeskModel" "trial" "[I") ∈ am_G := am_in (am_ck3 220 rfl) rfl
theorem gw_3_222 : (Jvm.Cond.laysFinal "ClassDeskModel" "ClassDeskModel" "row" "[I") ∈ am_G := am_in (am_ck3 222 rfl) rfl
theorem gw_3_224 : (Jvm.Cond.laysFinal "ClassDeskModel" "ClassDeskModel" "how" "[I") ∈ am_G := am_in (am_ck3 224 rfl) rfl
theorem gw_3_226 : (Jvm.Cond.laysFinal "ClassDeskModel" "ClassDeskModel" "initial" "[I") ∈ am_G := am_in (am_ck3 226 rfl) rfl
theorem gw_3_228 : (Jvm.Cond.laysFinal "ClassDeskModel" "ClassDeskModel" "classOf" "[I") ∈ am_G := am_in (am_ck3 228 rfl) rfl
theorem gw_3_230 : (Jvm.Cond.laysFinal "ClassDeskModel" "ClassDeskModel" "layout" "[I") ∈ am_G := am_in (am_ck3 230 rfl) rfl
theorem gw_3_232 : (Jvm.Cond.laysFinal "ClassDeskModel" "ClassDeskModel" "valued" "[I") ∈ am_G := am_in (am_ck3 232 rfl) rfl
theorem gw_3_234 : (Jvm.Cond.laysFinal "ClassDeskModel" "ClassDeskModel" "values" "[I") ∈ am_G := am_in (am_ck3 234 rfl) rfl
theorem gw_3_236 : (Jvm.Cond.laysFinal "ClassDeskModel" "ClassDeskModel" "params" "[I") ∈ am_G := am_in (am_ck3 236 rfl) rfl
theorem gw_3_238 : (Jvm.Cond.laysFinal "ClassDeskModel" "ClassDeskModel" "mGeneric" "[I") ∈ am_G := am_in (am_ck3 238 rfl) rfl
theorem gw_4_0 : (Jvm.Cond.laysFinal "ClassDeskModel" "ClassDeskModel" "mKind" "[I") ∈ am_G := am_in (am_ck4 0 rfl) rfl
theorem gw_4_2 : (Jvm.Cond.laysFinal "ClassDeskModel" "ClassDeskModel" "mFirst" "[I") ∈ am_G := am_in (am_ck4 2 rfl) rfl
theorem gw_4_4 : (Jvm.Cond.laysFinal "ClassDeskModel" "ClassDeskModel" "mSecond" "[I") ∈ am_G := am_in (am_ck4 4 rfl) rfl
theorem gw_4_6 : (Jvm.Cond.laysFinal "ClassDeskModel" "ClassDeskModel" "mBody" "[I") ∈ am_G := am_in (am_ck4 6 rfl) rfl
theorem gw_4_8 : (Jvm.Cond.laysFinal "ClassDeskModel" "ClassDeskModel" "ops" "[I") ∈ am_G := am_in (am_ck4 8 rfl) rfl
theorem gw_4_10 : (Jvm.Cond.laysFinal "ClassDeskModel" "ClassDeskModel" "args" "[I") ∈ am_G := am_in (am_ck4 10 rfl) rfl
theorem gw_4_12 : (Jvm.Cond.laysFinal "ClassDeskModel" "ClassDeskModel" "lengths" "[I") ∈ am_G := am_in (am_ck4 12 rfl) rfl
theorem gw_4_14 : (Jvm.Cond.laysFinal "ClassDeskModel" "ClassDeskModel" "kept" "[Z") ∈ am_G := am_in (am_ck4 14 rfl) rfl
theorem gw_4_16 : (Jvm.Cond.laysFinal "ClassDeskModel" "ClassDeskModel" "rank" "[I") ∈ am_G := am_in (am_ck4 16 rfl) rfl
theorem gw_4_18 : (Jvm.Cond.laysFinal "ClassDeskModel" "ClassDeskModel" "many" "[I") ∈ am_G := am_in (am_ck4 18 rfl) rfl
theorem gw_4_20 : (Jvm.Cond.laysFinal "ClassDeskModel" "ClassDeskModel" "gFirst" "[I") ∈ am_G := am_in (am_ck4 20 rfl) rfl
theorem gw_4_22 : (Jvm.Cond.laysFinal "ClassDeskModel" "ClassDeskModel" "gSecond" "[I") ∈ am_G := am_in (am_ck4 22 rfl) rfl
theorem gw_4_24 : (Jvm.Cond.laysFinal "ClassDeskModel" "ClassDeskModel" "gNumber" "[I") ∈ am_G := am_in (am_ck4 24 rfl) rfl
theorem gw_4_26 : (Jvm.Cond.laysFinal "ClassDeskModel" "ClassDeskModel" "fLevel" "[I") ∈ am_G := am_in (am_ck4 26 rfl) rfl
theorem gw_4_28 : (Jvm.Cond.laysFinal "ClassDeskModel" "ClassDeskModel" "fKind" "[I") ∈ am_G := am_in (am_ck4 28 rfl) rfl
theorem gw_4_30 : (Jvm.Cond.laysFinal "ClassDeskModel" "ClassDeskModel" "fPlace" "[I") ∈ am_G := am_in (am_ck4 30 rfl) rfl
theorem gw_4_32 : (Jvm.Cond.laysFinal "ClassDeskModel" "ClassDeskModel" "fStep" "[I") ∈ am_G := am_in (am_ck4 32 rfl) rfl
theorem gw_4_34 : (Jvm.Cond.laysFinal "ClassDeskModel" "ClassDeskModel" "fX" "[I") ∈ am_G := am_in (am_ck4 34 rfl) rfl
theorem gw_4_36 : (Jvm.Cond.laysFinal "ClassDeskModel" "ClassDeskModel" "fA" "[I") ∈ am_G := am_in (am_ck4 36 rfl) rfl
theorem gw_4_38 : (Jvm.Cond.laysFinal "ClassDeskModel" "ClassDeskModel" "fB" "[I") ∈ am_G := am_in (am_ck4 38 rfl) rfl
theorem gw_4_40 : (Jvm.Cond.laysFinal "ClassDeskModel" "ClassDeskModel" "fBody" "[I") ∈ am_G := am_in (am_ck4 40 rfl) rfl
theorem gw_4_42 : (Jvm.Cond.laysFinal "ClassDeskModel" "ClassDeskModel" "notes" "[I") ∈ am_G := am_in (am_ck4 42 rfl) rfl
theorem gw_4_44 : (Jvm.Cond.laysFinal "ClassDeskModel" "ClassDeskModel" "counts" "[I") ∈ am_G := am_in (am_ck4 44 rfl) rfl
theorem gw_4_46 : (Jvm.Cond.lays "ClassDeskModel" "ClassDeskModel" "instances" "I") ∈ am_G := am_in (am_ck4 46 rfl) rfl
theorem gw_4_48 : (Jvm.Cond.lays "ClassDeskModel" "ClassDeskModel" "level" "I") ∈ am_G := am_in (am_ck4 48 rfl) rfl
theorem gw_4_50 : (Jvm.Cond.lays "ClassDeskModel" "ClassDeskModel" "top" "I") ∈ am_G := am_in (am_ck4 50 rfl) rfl
theorem gw_4_52 : (Jvm.Cond.lays "ClassDeskModel" "ClassDeskModel" "error" "I") ∈ am_G := am_in (am_ck4 52 rfl) rfl
theorem gw_4_54 : (Jvm.Cond.lays "ClassDeskModel" "ClassDeskModel" "steps" "I") ∈ am_G := am_in (am_ck4 54 rfl) rfl
theorem gw_4_56 : (Jvm.Cond.lays "ClassDeskModel" "ClassDeskModel" "answer" "J") ∈ am_G := am_in (am_ck4 56 rfl) rfl
theorem gw_4_59 : (Jvm.Cond.arrayClass Jvm.ClassFile.FieldType.boolean) ∈ am_G := am_in (am_ck4 59 rfl) rfl
theorem gw_4_60 : (Jvm.Cond.methodLink "ClassDeskLaw" (17 : Nat) ({ cls := "ClassDeskModel", name := "define", desc := "(IIII)I" } : Jvm.MethodName)) ∈ am_G := am_in (am_ck4 60 rfl) rfl
theorem gw_4_61 : (Jvm.Cond.instanceMethod ({ cls := "ClassDeskModel", name := "define", desc := "(IIII)I" } : Jvm.MethodName)) ∈ am_G := am_in (am_ck4 61 rfl) rfl
theorem gw_4_62 : (Jvm.Cond.selects "ClassDeskModel" ({ cls := "ClassDeskModel", name := "define", desc := "(IIII)I" } : Jvm.MethodName) ({ cls := "ClassDeskModel", name := "define", desc := "(IIII)I" } : Jvm.MethodName)) ∈ am_G := am_in (am_ck4 62 rfl) rfl
theorem gw_4_63 : (Jvm.Cond.code ({ cls := "ClassDeskModel", name := "define", desc := "(IIII)I" } : Jvm.MethodName) prog_13_method_8_code (8 : Nat) (Option.some Jvm.ClassFile.FieldType.int)) ∈ am_G := am_in (am_ck4 63 rfl) rfl
theorem gw_4_64 : (Jvm.Cond.methodLink "ClassDeskModel" (122 : Nat) ({ cls := "ClassDeskModel", name := "is", desc := "(III)Z" } : Jvm.MethodName)) ∈ am_G := am_in (am_ck4 64 rfl) rfl
theorem gw_4_65 : (Jvm.Cond.static ({ cls := "ClassDeskModel", name := "is", desc := "(III)Z" } : Jvm.MethodName)) ∈ am_G := am_in (am_ck4 65 rfl) rfl
theorem gw_4_66 : (Jvm.Cond.code ({ cls := "ClassDeskModel", name := "is", desc := "(III)Z" } : Jvm.MethodName) prog_13_method_2_code (3 : Nat) (Option.some Jvm.ClassFile.FieldType.boolean)) ∈ am_G := am_in (am_ck4 66 rfl) rfl
theorem gw_4_67 : (Jvm.Cond.methodLink "ClassDeskModel" (134 : Nat) ({ cls := "ClassDeskModel", name := "isSub", desc := "(II)Z" } : Jvm.MethodName)) ∈ am_G := am_in (am_ck4 67 rfl) rfl
theorem gw_4_69 : (Jvm.Cond.instanceMethod ({ cls := "ClassDeskModel", name := "isSub", desc := "(II)Z" } : Jvm.MethodName)) ∈ am_G := am_in (am_ck4 69 rfl) rfl
theorem gw_4_70 : (Jvm.Cond.code ({ cls := "ClassDeskModel", name := "isSub", desc := "(II)Z" } : Jvm.MethodName) prog_13_method_6_code (3 : Nat) (Option.some Jvm.ClassFile.FieldType.boolean)) ∈ am_G := am_in (am_ck4 70 rfl) rfl
theorem gw_4_71 : (Jvm.Cond.methodLink "ClassDeskModel" (130 : Nat) ({ cls := "ClassDeskModel", name := "placeIn", desc := "(II)I" } : Jvm.MethodName)) ∈ am_G := am_in (am_ck4 71 rfl) rfl
theorem gw_4_73 : (Jvm.Cond.instanceMethod ({ cls := "ClassDeskModel", name := "placeIn", desc := "(II)I" } : Jvm.MethodName)) ∈ am_G := am_in (am_ck4 73 rfl) rfl
theorem gw_4_74 : (Jvm.Cond.code ({ cls := "ClassDeskModel", name := "placeIn", desc := "(II)I" } : Jvm.MethodName) prog_13_method_5_code (4 : Nat) (Option.some Jvm.ClassFile.FieldType.int)) ∈ am_G := am_in (am_ck4 74 rfl) rfl
theorem gw_4_75 : (Jvm.Cond.methodLink "ClassDeskModel" (138 : Nat) ({ cls := "ClassDeskModel", name := "arrange", desc := "(I)I" } : Jvm.MethodName)) ∈ am_G := am_in (am_ck4 75 rfl) rfl
theorem gw_4_77 : (Jvm.Cond.instanceMethod ({ cls := "ClassDeskModel", name := "arrange", desc := "(I)I" } : Jvm.MethodName)) ∈ am_G := am_in (am_ck4 77 rfl) rfl
theorem gw_4_78 : (Jvm.Cond.code ({ cls := "ClassDeskModel", name := "arrange", desc := "(I)I" } : Jvm.MethodName) prog_13_method_7_code (10 : Nat) (Option.some Jvm.ClassFile.FieldType.int)) ∈ am_G := am_in (am_ck4 78 rfl) rfl
theorem gw_4_79 : (Jvm.Cond.methodLink "ClassDeskModel" (142 : Nat) ({ cls := "ClassDeskModel", name := "forget", desc := "(I)V" } : Jvm.MethodName)) ∈ am_G := am_in (am_ck4 79 rfl) rfl
theorem gw_4_81 : (Jvm.Cond.instanceMethod ({ cls := "ClassDeskModel", name := "forget", desc := "(I)V" } : Jvm.MethodName)) ∈ am_G := am_in (am_ck4 81 rfl) rfl
theorem gw_4_82 : (Jvm.Cond.code ({ cls := "ClassDeskModel", name := "forget", desc := "(I)V" } : Jvm.MethodName) prog_13_method_21_code (3 : Nat) (Option.none : Option Jvm.ClassFile.FieldType)) ∈ am_G := am_in (am_ck4 82 rfl) rfl
theorem gw_4_83 : (Jvm.Cond.methodLink "ClassDeskLaw" (21 : Nat) ({ cls := "ClassDeskModel", name := "slot", desc := "(IIII)I" } : Jvm.MethodName)) ∈ am_G := am_in (am_ck4 83 rfl) rfl
theorem gw_4_84 : (Jvm.Cond.instanceMethod ({ cls := "ClassDeskModel", name := "slot", desc := "(IIII)I" } : Jvm.MethodName)) ∈ am_G := am_in (am_ck4 84 rfl) rfl
theorem gw_4_85 : (Jvm.Cond.selects "ClassDeskModel" ({ cls := "ClassDeskModel", name := "slot", desc := "(IIII)I" } : Jvm.MethodName) ({ cls := "ClassDeskModel", name := "slot", desc := "(IIII)I" } : Jvm.MethodName)) ∈ am_G := am_in (am_ck4 85 rfl) rfl
theorem gw_4_86 : (Jvm.Cond.code ({ cls := "ClassDeskModel", name := "slot", desc := "(IIII)I" } : Jvm.MethodName) prog_13_method_9_code (5 : Nat) (Option.some Jvm.ClassFile.FieldType.int)) ∈ am_G := am_in (am_ck4 86 rfl) rfl
theorem gw_4_87 : (Jvm.Cond.methodLink "ClassDeskModel" (146 : Nat) ({ cls := "ClassDeskModel", name := "isClass", desc := "(I)Z" } : Jvm.MethodName)) ∈ am_G := am_in (am_ck4 87 rfl) rfl
theorem gw_4_89 : (Jvm.Cond.instanceMethod ({ cls := "ClassDeskModel", name := "isClass", desc := "(I)Z" } : Jvm.MethodName)) ∈ am_G := am_in (am_ck4 89 rfl) rfl
theorem gw_4_90 : (Jvm.Cond.code ({ cls := "ClassDeskModel", name := "isClass", desc := "(I)Z" } : Jvm.MethodName) prog_13_method_3_code (2 : Nat) (Option.some Jvm.ClassFile.FieldType.boolean)) ∈ am_G := am_in (am_ck4 90 rfl) rfl
theorem gw_4_91 : (Jvm.Cond.methodLink "ClassDeskLaw" (26 : Nat) ({ cls := "ClassDeskModel", name := "make", desc := "(I)I" } : Jvm.MethodName)) ∈ am_G := am_in (am_ck4 91 rfl) rfl
theorem gw_4_92 : (Jvm.Cond.instanceMethod ({ cls := "ClassDeskModel", name := "make", desc := "(I)I" } : Jvm.MethodName)) ∈ am_G := am_in (am_ck4 92 rfl) rfl
theorem gw_4_93 : (Jvm.Cond.selects "ClassDeskModel" ({ cls := "ClassDeskModel", name := "make", desc := "(I)I" } : Jvm.MethodName) ({ cls := "ClassDeskModel", name := "make", desc := "(I)I" } : Jvm.MethodName)) ∈ am_G := am_in (am_ck4 93 rfl) rfl
theorem gw_4_94 : (Jvm.Cond.code ({ cls := "ClassDeskModel", name := "make", desc := "(I)I" } : Jvm.MethodName) prog_13_method_14_code (3 : Nat) (Option.some Jvm.ClassFile.FieldType.int)) ∈ am_G := am_in (am_ck4 94 rfl) rfl
theorem gw_4_95 : (Jvm.Cond.methodLink "ClassDeskModel" (156 : Nat) ({ cls := "ClassDeskModel", name := "follow", desc := "(I)V" } : Jvm.MethodName)) ∈ am_G := am_in (am_ck4 95 rfl) rfl
theorem gw_4_97 : (Jvm.Cond.instanceMethod ({ cls := "ClassDeskModel", name := "follow", desc := "(I)V" } : Jvm.MethodName)) ∈ am_G := am_in (am_ck4 97 rfl) rfl
theorem gw_4_98 : (Jvm.Cond.code ({ cls := "ClassDeskModel", name := "follow", desc := "(I)V" } : Jvm.MethodName) prog_13_method_12_code (6 : Nat) (Option.none : Option Jvm.ClassFile.FieldType)) ∈ am_G := am_in (am_ck4 98 rfl) rfl
theorem gw_4_99 : (Jvm.Cond.methodLink "ClassDeskModel" (153 : Nat) ({ cls := "ClassDeskModel", name := "locals", desc := "(I)I" } : Jvm.MethodName)) ∈ am_G := am_in (am_ck4 99 rfl) rfl
theorem gw_4_101 : (Jvm.Cond.instanceMethod ({ cls := "ClassDeskModel", name := "locals", desc := "(I)I" } : Jvm.MethodName)) ∈ am_G := am_in (am_ck4 101 rfl) rfl
theorem gw_4_102 : (Jvm.Cond.code ({ cls := "ClassDeskModel", name := "locals", desc := "(I)I" } : Jvm.MethodName) prog_13_method_11_code (5 : Nat) (Option.some Jvm.ClassFile.FieldType.int)) ∈ am_G := am_in (am_ck4 102 rfl) rfl
theorem gw_4_103 : (Jvm.Cond.methodLink "ClassDeskModel" (150 : Nat) ({ cls := "ClassDeskModel", name := "slotOf", desc := "(II)I" } : Jvm.MethodName)) ∈ am_G := am_in (am_ck4 103 rfl) rfl
theorem gw_4_105 : (Jvm.Cond.instanceMethod ({ cls := "ClassDeskModel", name := "slotOf", desc := "(II)I" } : Jvm.MethodName)) ∈ am_G := am_in (am_ck4 105 rfl) rfl
theorem gw_4_106 : (Jvm.Cond.code ({ cls := "ClassDeskModel", name := "slotOf", desc := "(II)I" } : Jvm.MethodName) prog_13_method_10_code (5 : Nat) (Option.some Jvm.ClassFile.FieldType.int)) ∈ am_G := am_in (am_ck4 106 rfl) rfl
theorem gw_4_107 : (Jvm.Cond.methodLink "ClassDeskLaw" (31 : Nat) ({ cls := "ClassDeskModel", name := "become", desc := "(II)I" } : Jvm.MethodName)) ∈ am_G := am_in (am_ck4 107 rfl) rfl
theorem gw_4_108 : (Jvm.Cond.instanceMethod ({ cls := "ClassDeskModel", name := "become", desc := "(II)I" } : Jvm.MethodName)) ∈ am_G := am_in (am_ck4 108 rfl) rfl
theorem gw_4_109 : (Jvm.Cond.selects "ClassDeskModel" ({ cls := "ClassDeskModel", name := "become", desc := "(II)I" } : Jvm.MethodName) ({ cls := "ClassDeskModel", name := "become", desc := "(II)I" } : Jvm.MethodName)) ∈ am_G := am_in (am_ck4 109 rfl) rfl
theorem gw_4_110 : (Jvm.Cond.code ({ cls := "ClassDeskModel", name := "become", desc := "(II)I" } : Jvm.MethodName) prog_13_method_15_code (3 : Nat) (Option.some Jvm.ClassFile.FieldType.int)) ∈ am_G := am_in (am_ck4 110 rfl) rfl
theorem gw_4_111 : (Jvm.Cond.methodLink "ClassDeskModel" (159 : Nat) ({ cls := "ClassDeskModel", name := "isInstance", desc := "(I)Z" } : Jvm.MethodName)) ∈ am_G := am_in (am_ck4 111 rfl) rfl
theorem gw_4_113 : (Jvm.Cond.instanceMethod ({ cls := "ClassDeskModel", name := "isInstance", desc := "(I)Z" } : Jvm.MethodName)) ∈ am_G := am_in (am_ck4 113 rfl) rfl
theorem gw_4_114 : (Jvm.Cond.code ({ cls := "ClassDeskModel", name := "isInstance", desc := "(I)Z" } : Jvm.MethodName) prog_13_method_4_code (2 : Nat) (Option.some Jvm.ClassFile.FieldType.boolean)) ∈ am_G := am_in (am_ck4 114 rfl) rfl
theorem gw_4_115 : (Jvm.Cond.methodLink "ClassDeskModel" (162 : Nat) ({ cls := "ClassDeskModel", name := "touch", desc := "(I)V" } : Jvm.MethodName)) ∈ am_G := am_in (am_ck4 115 rfl) rfl
theorem gw_4_117 : (Jvm.Cond.instanceMethod ({ cls := "ClassDeskModel", name := "touch", desc := "(I)V" } : Jvm.MethodName)) ∈ am_G := am_in (am_ck4 117 rfl) rfl
theorem gw_4_118 : (Jvm.Cond.code ({ cls := "ClassDeskModel", name := "touch", desc := "(I)V" } : Jvm.MethodName) prog_13_method_13_code (2 : Nat) (Option.none : Option Jvm.ClassFile.FieldType)) ∈ am_G := am_in (am_ck4 118 rfl) rfl
theorem gw_4_119 : (Jvm.Cond.methodLink "ClassDeskLaw" (36 : Nat) ({ cls := "ClassDeskModel", name := "get", desc := "(II)J" } : Jvm.MethodName)) ∈ am_G := am_in (am_ck4 119 rfl) rfl
theorem gw_4_120 : (Jvm.Cond.instanceMethod ({ cls := "ClassDeskModel", name := "get", desc := "(II)J" } : Jvm.MethodName)) ∈ am_G := am_in (am_ck4 120 rfl) rfl
theorem gw_4_121 : (Jvm.Cond.selects "ClassDeskModel" ({ cls := "ClassDeskModel", name := "get", desc := "(II)J" } : Jvm.MethodName) ({ cls := "ClassDeskModel", name := "get", desc := "(II)J" } : Jvm.MethodName)) ∈ am_G := am_in (am_ck4 121 rfl) rfl
theorem gw_4_122 : (Jvm.Cond.code ({ cls := "ClassDeskModel", name := "get", desc := "(II)J" } : Jvm.MethodName) prog_13_method_18_code (4 : Nat) (Option.some Jvm.ClassFile.FieldType.long)) ∈ am_G := am_in (am_ck4 122 rfl) rfl
theorem gw_4_123 : (Jvm.Cond.methodLink "ClassDeskModel" (170 : Nat) ({ cls := "ClassDeskModel", name := "reach", desc := "(II)I" } : Jvm.MethodName)) ∈ am_G := am_in (am_ck4 123 rfl) rfl
theorem gw_4_125 : (Jvm.Cond.instanceMethod ({ cls := "ClassDeskModel", name := "reach", desc := "(II)I" } : Jvm.MethodName)) ∈ am_G := am_in (am_ck4 125 rfl) rfl
theorem gw_4_126 : (Jvm.Cond.code ({ cls := "ClassDeskModel", name := "reach", desc := "(II)I" } : Jvm.MethodName) prog_13_method_17_code (4 : Nat) (Option.some Jvm.ClassFile.FieldType.int)) ∈ am_G := am_in (am_ck4 126 rfl) rfl
theorem gw_4_127 : (Jvm.Cond.methodLink "ClassDeskModel" (173 : Nat) ({ cls := "ClassDeskModel", name := "fail", desc := "(I)J" } : Jvm.MethodName)) ∈ am_G := am_in (am_ck4 127 rfl) rfl
theorem gw_4_129 : (Jvm.Cond.instanceMethod ({ cls := "ClassDeskModel", name := "fail", desc := "(I)J" } : Jvm.MethodName)) ∈ am_G := am_in (am_ck4 129 rfl) rfl
theorem gw_4_130 : (Jvm.Cond.code ({ cls := "ClassDeskModel", name := "fail", desc := "(I)J" } : Jvm.MethodName) prog_13_method_16_code (2 : Nat) (Option.some Jvm.ClassFile.FieldType.long)) ∈ am_G := am_in (am_ck4 130 rfl) rfl
theorem gw_4_131 : (Jvm.Cond.constantLong "ClassDeskModel" (168 : Nat) (1099511627776 : Int64)) ∈ am_G := am_in (am_ck4 131 rfl) rfl
theorem gw_4_132 : (Jvm.Cond.methodLink "ClassDeskLaw" (41 : Nat) ({ cls := "ClassDeskModel", name := "put", desc := "(III)J" } : Jvm.MethodName)) ∈ am_G := am_in (am_ck4 132 rfl) rfl
theorem gw_4_133 : (Jvm.Cond.instanceMethod ({ cls := "ClassDeskModel", name := "put", desc := "(III)J" } : Jvm.MethodName)) ∈ am_G := am_in (am_ck4 133 rfl) rfl
theorem gw_4_134 : (Jvm.Cond.selects "ClassDeskModel" ({ cls := "ClassDeskModel", name := "put", desc := "(III)J" } : Jvm.MethodName) ({ cls := "ClassDeskModel", name := "put", desc := "(III)J" } : Jvm.MethodName)) ∈ am_G := am_in (am_ck4 134 rfl) rfl
theorem gw_4_135 : (Jvm.Cond.code ({ cls := "ClassDeskModel", name := "put", desc := "(III)J" } : Jvm.MethodName) prog_13_method_19_code (5 : Nat) (Option.some Jvm.ClassFile.FieldType.long)) ∈ am_G := am_in (am_ck4 135 rfl) rfl
theorem gw_4_136 : (Jvm.Cond.methodLink "ClassDeskLaw" (45 : Nat) ({ cls := "ClassDeskModel", name := "unbind", desc := "(II)J" } : Jvm.MethodName)) ∈ am_G := am_in (am_ck4 136 rfl) rfl
theorem gw_4_137 : (Jvm.Cond.instanceMethod ({ cls := "ClassDeskModel", name := "unbind", desc := "(II)J" } : Jvm.MethodName)) ∈ am_G := am_in (am_ck4 137 rfl) rfl
theorem gw_4_138 : (Jvm.Cond.selects "ClassDeskModel" ({ cls := "ClassDeskModel", name := "unbind", desc := "(II)J" } : Jvm.MethodName) ({ cls := "ClassDeskModel", name := "unbind", desc := "(II)J" } : Jvm.MethodName)) ∈ am_G := am_in (am_ck4 138 rfl) rfl
theorem gw_4_139 : (Jvm.Cond.code ({ cls := "ClassDeskModel", name := "unbind", desc := "(II)J" } : Jvm.MethodName) prog_13_method_20_code (5 : Nat) (Option.some Jvm.ClassFile.FieldType.long)) ∈ am_G := am_in (am_ck4 139 rfl) rfl
theorem gw_4_140 : (Jvm.Cond.methodLink "ClassDeskLaw" (49 : Nat) ({ cls := "ClassDeskModel", name := "generic", desc := "(II)I" } : Jvm.MethodName)) ∈ am_G := am_in (am_ck4 140 rfl) rfl
theorem gw_4_141 : (Jvm.Cond.instanceMethod ({ cls := "ClassDeskModel", name := "generic", desc := "(II)I" } : Jvm.MethodName)) ∈ am_G := am_in (am_ck4 141 rfl) rfl
theorem gw_4_142 : (Jvm.Cond.selects "ClassDeskModel" ({ cls := "ClassDeskModel", name := "generic", desc := "(II)I" } : Jvm.MethodName) ({ cls := "ClassDeskModel", name := "generic", desc := "(II)I" } : Jvm.MethodName)) ∈ am_G := am_in (am_ck4 142 rfl) rfl
theorem gw_4_143 : (Jvm.Cond.code ({ cls := "ClassDeskModel", name := "generic", desc := "(II)I" } : Jvm.MethodName) prog_13_method_22_code (5 : Nat) (Option.some Jvm.ClassFile.FieldType.int)) ∈ am_G := am_in (am_ck4 143 rfl) rfl
theorem gw_4_144 : (Jvm.Cond.methodLink "ClassDeskLaw" (54 : Nat) ({ cls := "ClassDeskModel", name := "method", desc := "(IIIII)I" } : Jvm.MethodName)) ∈ am_G := am_in (am_ck4 144 rfl) rfl
theorem gw_4_145 : (Jvm.Cond.instanceMethod ({ cls := "ClassDeskModel", name := "method", desc := "(IIIII)I" } : Jvm.MethodName)) ∈ am_G := am_in (am_ck4 145 rfl) rfl
theorem gw_4_146 : (Jvm.Cond.selects "ClassDeskModel" ({ cls := "ClassDeskModel", name := "method", desc := "(IIIII)I" } : Jvm.MethodName) ({ cls := "ClassDeskModel", name := "method", desc := "(IIIII)I" } : Jvm.MethodName)) ∈ am_G := am_in (am_ck4 146 rfl) rfl
theorem gw_4_147 : (Jvm.Cond.code ({ cls := "ClassDeskModel", name := "method", desc := "(IIIII)I" } : Jvm.MethodName) prog_13_method_25_code (9 : Nat) (Option.some Jvm.ClassFile.FieldType.int)) ∈ am_G := am_in (am_ck4 147 rfl) rfl
theorem gw_4_148 : (Jvm.Cond.methodLink "ClassDeskModel" (177 : Nat) ({ cls := "ClassDeskModel", name := "isSpecializer", desc := "(I)Z" } : Jvm.MethodName)) ∈ am_G := am_in (am_ck4 148 rfl) rfl
theorem gw_4_150 : (Jvm.Cond.instanceMethod ({ cls := "ClassDeskModel", name := "isSpecializer", desc := "(I)Z" } : Jvm.MethodName)) ∈ am_G := am_in (am_ck4 150 rfl) rfl
theorem gw_4_151 : (Jvm.Cond.code ({ cls := "ClassDeskModel", name := "isSpecializer", desc := "(I)Z" } : Jvm.MethodName) prog_13_method_23_code (2 : Nat) (Option.some Jvm.ClassFile.FieldType.boolean)) ∈ am_G := am_in (am_ck4 151 rfl) rfl
theorem gw_4_152 : (Jvm.Cond.methodLink "ClassDeskModel" (180 : Nat) ({ cls := "ClassDeskModel", name := "isThere", desc := "(I)Z" } : Jvm.MethodName)) ∈ am_G := am_in (am_ck4 152 rfl) rfl
theorem gw_4_154 : (Jvm.Cond.instanceMethod ({ cls := "ClassDeskModel", name := "isThere", desc := "(I)Z" } : Jvm.MethodName)) ∈ am_G := am_in (am_ck4 154 rfl) rfl
theorem gw_4_155 : (Jvm.Cond.code ({ cls := "ClassDeskModel", name := "isThere", desc := "(I)Z" } : Jvm.MethodName) prog_13_method_24_code (2 : Nat) (Option.some Jvm.ClassFile.FieldType.boolean)) ∈ am_G := am_in (am_ck4 155 rfl) rfl
theorem gw_4_156 : (Jvm.Cond.methodLink "ClassDeskLaw" (58 : Nat) ({ cls := "ClassDeskModel", name := "remove", desc := "(I)I" } : Jvm.MethodName)) ∈ am_G := am_in (am_ck4 156 rfl) rfl
theorem gw_4_157 : (Jvm.Cond.instanceMethod ({ cls := "ClassDeskModel", name := "remove", desc := "(I)I" } : Jvm.MethodName)) ∈ am_G := am_in (am_ck4 157 rfl) rfl
theorem gw_4_158 : (Jvm.Cond.selects "ClassDeskModel" ({ cls := "ClassDeskModel", name := "remove", desc := "(I)I" } : Jvm.MethodName) ({ cls := "ClassDeskModel", name := "remove", desc := "(I)I" } : Jvm.MethodName)) ∈ am_G := am_in (am_ck4 158 rfl) rfl
theorem gw_4_159 : (Jvm.Cond.code ({ cls := "ClassDeskModel", name := "remove", desc := "(I)I" } : Jvm.MethodName) prog_13_method_26_code (3 : Nat) (Option.some Jvm.ClassFile.FieldType.int)) ∈ am_G := am_in (am_ck4 159 rfl) rfl
theorem gw_4_160 : (Jvm.Cond.methodLink "ClassDeskLaw" (63 : Nat) ({ cls := "ClassDeskModel", name := "step", desc := "(III)I" } : Jvm.MethodName)) ∈ am_G := am_in (am_ck4 160 rfl) rfl
theorem gw_4_161 : (Jvm.Cond.instanceMethod ({ cls := "ClassDeskModel", name := "step", desc := "(III)I" } : Jvm.MethodName)) ∈ am_G := am_in (am_ck4 161 rfl) rfl
theorem gw_4_162 : (Jvm.Cond.selects "ClassDeskModel" ({ cls := "ClassDeskModel", name := "step", desc := "(III)I" } : Jvm.MethodName) ({ cls := "ClassDeskModel", name := "step", desc := "(III)I" } : Jvm.MethodName)) ∈ am_G := am_in (am_ck4 162 rfl) rfl
theorem gw_4_163 : (Jvm.Cond.code ({ cls := "ClassDeskModel", name := "step", desc := "(III)I" } : Jvm.MethodName) prog_13_method_27_code (4 : Nat) (Option.some Jvm.ClassFile.FieldType.int)) ∈ am_G := am_in (am_ck4 163 rfl) rfl
theorem gw_4_164 : (Jvm.Cond.methodLink "ClassDeskLaw" (67 : Nat) ({ cls := "ClassDeskModel", name := "clear", desc := "(I)I" } : Jvm.MethodName)) ∈ am_G := am_in (am_ck4 164 rfl) rfl
theorem gw_4_165 : (Jvm.Cond.instanceMethod ({ cls := "ClassDeskModel", name := "clear", desc := "(I)I" } : Jvm.MethodName)) ∈ am_G := am_in (am_ck4 165 rfl) rfl
theorem gw_4_166 : (Jvm.Cond.selects "ClassDeskModel" ({ cls := "ClassDeskModel", name := "clear", desc := "(I)I" } : Jvm.MethodName) ({ cls := "ClassDeskModel", name := "clear", desc := "(I)I" } : Jvm.MethodName)) ∈ am_G := am_in (am_ck4 166 rfl) rfl
theorem gw_4_167 : (Jvm.Cond.code ({ cls := "ClassDeskModel", name := "clear", desc := "(I)I" } : Jvm.MethodName) prog_13_method_28_code (3 : Nat) (Option.some Jvm.ClassFile.FieldType.int)) ∈ am_G := am_in (am_ck4 167 rfl) rfl
theorem gw_4_168 : (Jvm.Cond.methodLink "ClassDeskLaw" (71 : Nat) ({ cls := "ClassDeskModel", name := "call", desc := "(III)J" } : Jvm.MethodName)) ∈ am_G := am_in (am_ck4 168 rfl) rfl
theorem gw_4_169 : (Jvm.Cond.instanceMethod ({ cls := "ClassDeskModel", name := "call", desc := "(III)J" } : Jvm.MethodName)) ∈ am_G := am_in (am_ck4 169 rfl) rfl
theorem gw_4_170 : (Jvm.Cond.selects "ClassDeskModel" ({ cls := "ClassDeskModel", name := "call", desc := "(III)J" } : Jvm.MethodName) ({ cls := "ClassDeskModel", name := "call", desc := "(III)J" } : Jvm.MethodName)) ∈ am_G := am_in (am_ck4 170 rfl) rfl
theorem gw_4_171 : (Jvm.Cond.code ({ cls := "ClassDeskModel", name := "call", desc := "(III)J" } : Jvm.MethodName) prog_13_method_41_code (5 : Nat) (Option.some Jvm.ClassFile.FieldType.long)) ∈ am_G := am_in (am_ck4 171 rfl) rfl
theorem gw_4_172 : (Jvm.Cond.constantLong "ClassDeskModel" (245 : Nat) (1099511627774 : Int64)) ∈ am_G := am_in (am_ck4 172 rfl) rfl
theorem gw_4_173 : (Jvm.Cond.methodLink "ClassDeskModel" (239 : Nat) ({ cls := "ClassDeskModel", name := "enter", desc := "(III)Z" } : Jvm.MethodName)) ∈ am_G := am_in (am_ck4 173 rfl) rfl
theorem gw_4_175 : (Jvm.Cond.instanceMethod ({ cls := "ClassDeskModel", name := "enter", desc := "(III)Z" } : Jvm.MethodName)) ∈ am_G := am_in (am_ck4 175 rfl) rfl
theorem gw_4_176 : (Jvm.Cond.code ({ cls := "ClassDeskModel", name := "enter", desc := "(III)Z" } : Jvm.MethodName) prog_13_method_31_code (8 : Nat) (Option.some Jvm.ClassFile.FieldType.boolean)) ∈ am_G := am_in (am_ck4 176 rfl) rfl
theorem gw_4_177 : (Jvm.Cond.methodLink "ClassDeskModel" (186 : Nat) ({ cls := "ClassDeskModel", name := "suits", desc := "(II)Z" } : Jvm.MethodName)) ∈ am_G := am_in (am_ck4 177 rfl) rfl
theorem gw_4_179 : (Jvm.Cond.instanceMethod ({ cls := "ClassDeskModel", name := "suits", desc := "(II)Z" } : Jvm.MethodName)) ∈ am_G := am_in (am_ck4 179 rfl) rfl
theorem gw_4_180 : (Jvm.Cond.code ({ cls := "ClassDeskModel", name := "suits", desc := "(II)Z" } : Jvm.MethodName) prog_13_method_29_code (3 : Nat) (Option.some Jvm.ClassFile.FieldType.boolean)) ∈ am_G := am_in (am_ck4 180 rfl) rfl
theorem gw_4_181 : (Jvm.Cond.methodLink "ClassDeskModel" (189 : Nat) ({ cls := "ClassDeskModel", name := "insert", desc := "(III)V" } : Jvm.MethodName)) ∈ am_G := am_in (am_ck4 181 rfl) rfl
theorem gw_4_183 : (Jvm.Cond.instanceMethod ({ cls := "ClassDeskModel", name := "insert", desc := "(III)V" } : Jvm.MethodName)) ∈ am_G := am_in (am_ck4 183 rfl) rfl
theorem gw_4_184 : (Jvm.Cond.code ({ cls := "ClassDeskModel", name := "insert", desc := "(III)V" } : Jvm.MethodName) prog_13_method_32_code (6 : Nat) (Option.none : Option Jvm.ClassFile.FieldType)) ∈ am_G := am_in (am_ck4 184 rfl) rfl
theorem gw_4_185 : (Jvm.Cond.methodLink "ClassDeskModel" (197 : Nat) ({ cls := "ClassDeskModel", name := "isBefore", desc := "(IIII)Z" } : Jvm.MethodName)) ∈ am_G := am_in (am_ck4 185 rfl) rfl
theorem gw_4_187 : (Jvm.Cond.instanceMethod ({ cls := "ClassDeskModel", name := "isBefore", desc := "(IIII)Z" } : Jvm.MethodName)) ∈ am_G := am_in (am_ck4 187 rfl) rfl
theorem gw_4_188 : (Jvm.Cond.code ({ cls := "ClassDeskModel", name := "isBefore", desc := "(IIII)Z" } : Jvm.MethodName) prog_13_method_33_code (7 : Nat) (Option.some Jvm.ClassFile.FieldType.boolean)) ∈ am_G := am_in (am_ck4 188 rfl) rfl
theorem gw_4_189 : (Jvm.Cond.methodLink "ClassDeskModel" (201 : Nat) ({ cls := "ClassDeskModel", name := "distance", desc := "(II)I" } : Jvm.MethodName)) ∈ am_G := am_in (am_ck4 189 rfl) rfl
theorem gw_4_191 : (Jvm.Cond.instanceMethod ({ cls := "ClassDeskModel", name := "distance", desc := "(II)I" } : Jvm.MethodName)) ∈ am_G := am_in (am_ck4 191 rfl) rfl
theorem gw_4_192 : (Jvm.Cond.code ({ cls := "ClassDeskModel", name := "distance", desc := "(II)I" } : Jvm.MethodName) prog_13_method_30_code (3 : Nat) (Option.some Jvm.ClassFile.FieldType.int)) ∈ am_G := am_in (am_ck4 192 rfl) rfl
theorem gw_4_193 : (Jvm.Cond.methodLink "ClassDeskModel" (193 : Nat) ({ cls := "ClassDeskModel", name := "begin", desc := "(II)V" } : Jvm.MethodName)) ∈ am_G := am_in (am_ck4 193 rfl) rfl
theorem gw_4_195 : (Jvm.Cond.instanceMethod ({ cls := "ClassDeskModel", name := "begin", desc := "(II)V" } : Jvm.MethodName)) ∈ am_G := am_in (am_ck4 195 rfl) rfl
theorem gw_4_196 : (Jvm.Cond.code ({ cls := "ClassDeskModel", name := "begin", desc := "(II)V" } : Jvm.MethodName) prog_13_method_35_code (4 : Nat) (Option.none : Option Jvm.ClassFile.FieldType)) ∈ am_G := am_in (am_ck4 196 rfl) rfl
theorem gw_4_197 : (Jvm.Cond.methodLink "ClassDeskModel" (207 : Nat) ({ cls := "ClassDeskModel", name := "manyOf", desc := "(I)I" } : Jvm.MethodName)) ∈ am_G := am_in (am_ck4 197 rfl) rfl
theorem gw_4_199 : (Jvm.Cond.instanceMethod ({ cls := "ClassDeskModel", name := "manyOf", desc := "(I)I" } : Jvm.MethodName)) ∈ am_G := am_in (am_ck4 199 rfl) rfl
theorem gw_4_200 : (Jvm.Cond.code ({ cls := "ClassDeskModel", name := "manyOf", desc := "(I)I" } : Jvm.MethodName) prog_13_method_34_code (2 : Nat) (Option.some Jvm.ClassFile.FieldType.int)) ∈ am_G := am_in (am_ck4 200 rfl) rfl
theorem gw_4_201 : (Jvm.Cond.methodLink "ClassDeskModel" (247 : Nat) ({ cls := "ClassDeskModel", name := "work", desc := "()Z" } : Jvm.MethodName)) ∈ am_G := am_in (am_ck4 201 rfl) rfl
theorem gw_4_203 : (Jvm.Cond.instanceMethod ({ cls := "ClassDeskModel", name := "work", desc := "()Z" } : Jvm.MethodName)) ∈ am_G := am_in (am_ck4 203 rfl) rfl
theorem gw_4_204 : (Jvm.Cond.code ({ cls := "ClassDeskModel", name := "work", desc := "()Z" } : Jvm.MethodName) prog_13_method_38_code (4 : Nat) (Option.some Jvm.ClassFile.FieldType.boolean)) ∈ am_G := am_in (am_ck4 204 rfl) rfl
theorem gw_4_205 : (Jvm.Cond.methodLink "ClassDeskModel" (217 : Nat) ({ cls := "ClassDeskModel", name := "middle", desc := "(I)V" } : Jvm.MethodName)) ∈ am_G := am_in (am_ck4 205 rfl) rfl
theorem gw_4_207 : (Jvm.Cond.instanceMethod ({ cls := "ClassDeskModel", name := "middle", desc := "(I)V" } : Jvm.MethodName)) ∈ am_G := am_in (am_ck4 207 rfl) rfl
theorem gw_4_208 : (Jvm.Cond.code ({ cls := "ClassDeskModel", name := "middle", desc := "(I)V" } : Jvm.MethodName) prog_13_method_37_code (5 : Nat) (Option.none : Option Jvm.ClassFile.FieldType)) ∈ am_G := am_in (am_ck4 208 rfl) rfl
theorem gw_4_209 : (Jvm.Cond.methodLink "ClassDeskModel" (214 : Nat) ({ cls := "ClassDeskModel", name := "give", desc := "(I)V" } : Jvm.MethodName)) ∈ am_G := am_in (am_ck4 209 rfl) rfl
theorem gw_4_211 : (Jvm.Cond.instanceMethod ({ cls := "ClassDeskModel", name := "give", desc := "(I)V" } : Jvm.MethodName)) ∈ am_G := am_in (am_ck4 211 rfl) rfl
theorem gw_4_212 : (Jvm.Cond.code ({ cls := "ClassDeskModel", name := "give", desc := "(I)V" } : Jvm.MethodName) prog_13_method_36_code (3 : Nat) (Option.none : Option Jvm.ClassFile.FieldType)) ∈ am_G := am_in (am_ck4 212 rfl) rfl
theorem gw_4_213 : (Jvm.Cond.methodLink "ClassDeskModel" (223 : Nat) ({ cls := "ClassDeskModel", name := "stop", desc := "(I)Z" } : Jvm.MethodName)) ∈ am_G := am_in (am_ck4 213 rfl) rfl
theorem gw_4_215 : (Jvm.Cond.instanceMethod ({ cls := "ClassDeskModel", name := "stop", desc := "(I)Z" } : Jvm.MethodName)) ∈ am_G := am_in (am_ck4 215 rfl) rfl
theorem gw_4_216 : (Jvm.Cond.code ({ cls := "ClassDeskModel", name := "stop", desc := "(I)Z" } : Jvm.MethodName) prog_13_method_39_code (2 : Nat) (Option.some Jvm.ClassFile.FieldType.boolean)) ∈ am_G := am_in (am_ck4 216 rfl) rfl
theorem gw_4_217 : (Jvm.Cond.methodLink "ClassDeskModel" (226 : Nat) ({ cls := "ClassDeskModel", name := "act", desc := "(III)Z" } : Jvm.MethodName)) ∈ am_G := am_in (am_ck4 217 rfl) rfl
theorem gw_4_219 : (Jvm.Cond.instanceMethod ({ cls := "ClassDeskModel", name := "act", desc := "(III)Z" } : Jvm.MethodName)) ∈ am_G := am_in (am_ck4 219 rfl) rfl
theorem gw_4_220 : (Jvm.Cond.code ({ cls := "ClassDeskModel", name := "act", desc := "(III)Z" } : Jvm.MethodName) prog_13_method_40_code (9 : Nat) (Option.some Jvm.ClassFile.FieldType.boolean)) ∈ am_G := am_in (am_ck4 220 rfl) rfl
theorem gw_4_221 : (Jvm.Cond.methodLink "ClassDeskModel" (229 : Nat) ({ cls := "ClassDeskModel", name := "get", desc := "(II)J" } : Jvm.MethodName)) ∈ am_G := am_in (am_ck4 221 rfl) rfl
theorem gw_4_222 : (Jvm.Cond.constantLong "ClassDeskModel" (233 : Nat) (549755813888 : Int64)) ∈ am_G := am_in (am_ck4 222 rfl) rfl
theorem gw_4_223 : (Jvm.Cond.methodLink "ClassDeskModel" (235 : Nat) ({ cls := "ClassDeskModel", name := "put", desc := "(III)J" } : Jvm.MethodName)) ∈ am_G := am_in (am_ck4 223 rfl) rfl
theorem gw_4_224 : (Jvm.Cond.methodLink "ClassDeskModel" (242 : Nat) ({ cls := "ClassDeskModel", name := "become", desc := "(II)I" } : Jvm.MethodName)) ∈ am_G := am_in (am_ck4 224 rfl) rfl
theorem gw_4_225 : (Jvm.Cond.methodLink "ClassDeskLaw" (75 : Nat) ({ cls := "ClassDeskModel", name := "precedence", desc := "(II)I" } : Jvm.MethodName)) ∈ am_G := am_in (am_ck4 225 rfl) rfl
theorem gw_4_226 : (Jvm.Cond.instanceMethod ({ cls := "ClassDeskModel", name := "precedence", desc := "(II)I" } : Jvm.MethodName)) ∈ am_G := am_in (am_ck4 226 rfl) rfl
theorem gw_4_227 : (Jvm.Cond.selects "ClassDeskModel" ({ cls := "ClassDeskModel", name := "precedence", desc := "(II)I" } : Jvm.MethodName) ({ cls := "ClassDeskModel", name := "precedence", desc := "(II)I" } : Jvm.MethodName)) ∈ am_G := am_in (am_ck4 227 rfl) rfl
theorem gw_4_228 : (Jvm.Cond.code ({ cls := "ClassDeskModel", name := "precedence", desc := "(II)I" } : Jvm.MethodName) prog_13_method_42_code (3 : Nat) (Option.some Jvm.ClassFile.FieldType.int)) ∈ am_G := am_in (am_ck4 228 rfl) rfl
theorem gw_4_229 : (Jvm.Cond.methodLink "ClassDeskLaw" (79 : Nat) ({ cls := "ClassDeskModel", name := "has", desc := "(II)I" } : Jvm.MethodName)) ∈ am_G := am_in (am_ck4 229 rfl) rfl
theorem gw_4_230 : (Jvm.Cond.instanceMethod ({ cls := "ClassDeskModel", name := "has", desc := "(II)I" } : Jvm.MethodName)) ∈ am_G := am_in (am_ck4 230 rfl) rfl
theorem gw_4_231 : (Jvm.Cond.selects "ClassDeskModel" ({ cls := "ClassDeskModel", name := "has", desc := "(II)I" } : Jvm.MethodName) ({ cls := "ClassDeskModel", name := "has", desc := "(II)I" } : Jvm.MethodName)) ∈ am_G := am_in (am_ck4 231 rfl) rfl
theorem gw_4_232 : (Jvm.Cond.code ({ cls := "ClassDeskModel", name := "has", desc := "(II)I" } : Jvm.MethodName) prog_13_method_43_code (4 : Nat) (Option.some Jvm.ClassFile.FieldType.int)) ∈ am_G := am_in (am_ck4 232 rfl) rfl
theorem gw_4_233 : (Jvm.Cond.methodLink "ClassDeskLaw" (83 : Nat) ({ cls := "ClassDeskModel", name := "look", desc := "(II)I" } : Jvm.MethodName)) ∈ am_G := am_in (am_ck4 233 rfl) rfl
theorem gw_4_234 : (Jvm.Cond.instanceMethod ({ cls := "ClassDeskModel", name := "look", desc := "(II)I" } : Jvm.MethodName)) ∈ am_G := am_in (am_ck4 234 rfl) rfl
theorem gw_4_235 : (Jvm.Cond.selects "ClassDeskModel" ({ cls := "ClassDeskModel", name := "look", desc := "(II)I" } : Jvm.MethodName) ({ cls := "ClassDeskModel", name := "look", desc := "(II)I" } : Jvm.MethodName)) ∈ am_G := am_in (am_ck4 235 rfl) rfl
theorem gw_4_236 : (Jvm.Cond.code ({ cls := "ClassDeskModel", name := "look", desc := "(II)I" } : Jvm.MethodName) prog_13_method_44_code (3 : Nat) (Option.some Jvm.ClassFile.FieldType.int)) ∈ am_G := am_in (am_ck4 236 rfl) rfl
theorem gw_4_237 : (Jvm.Cond.methodLink "ClassDeskLaw" (87 : Nat) ({ cls := "ClassDeskModel", name := "noted", desc := "(I)I" } : Jvm.MethodName)) ∈ am_G := am_in (am_ck4 237 rfl) rfl
theorem gw_4_238 : (Jvm.Cond.instanceMethod ({ cls := "ClassDeskModel", name := "noted", desc := "(I)I" } : Jvm.MethodName)) ∈ am_G := am_in (am_ck4 238 rfl) rfl
theorem gw_4_239 : (Jvm.Cond.selects "ClassDeskModel" ({ cls := "ClassDeskModel", name := "noted", desc := "(I)I" } : Jvm.MethodName) ({ cls := "ClassDeskModel", name := "noted", desc := "(I)I" } : Jvm.MethodName)) ∈ am_G := am_in (am_ck4 239 rfl) rfl
theorem gw_5_0 : (Jvm.Cond.code ({ cls := "ClassDeskModel", name := "noted", desc := "(I)I" } : Jvm.MethodName) prog_13_method_45_code (2 : Nat) (Option.some Jvm.ClassFile.FieldType.int)) ∈ am_G := am_in (am_ck5 0 rfl) rfl
theorem gw_5_1 : (Jvm.Cond.methodLink "ClassDeskLaw" (91 : Nat) ({ cls := "ClassDeskModel", name := "count", desc := "(I)I" } : Jvm.MethodName)) ∈ am_G := am_in (am_ck5 1 rfl) rfl
theorem gw_5_2 : (Jvm.Cond.instanceMethod ({ cls := "ClassDeskModel", name := "count", desc := "(I)I" } : Jvm.MethodName)) ∈ am_G := am_in (am_ck5 2 rfl) rfl
theorem gw_5_3 : (Jvm.Cond.selects "ClassDeskModel" ({ cls := "ClassDeskModel", name := "count", desc := "(I)I" } : Jvm.MethodName) ({ cls := "ClassDeskModel", name := "count", desc := "(I)I" } : Jvm.MethodName)) ∈ am_G := am_in (am_ck5 3 rfl) rfl
theorem gw_5_4 : (Jvm.Cond.code ({ cls := "ClassDeskModel", name := "count", desc := "(I)I" } : Jvm.MethodName) prog_13_method_46_code (4 : Nat) (Option.some Jvm.ClassFile.FieldType.int)) ∈ am_G := am_in (am_ck5 4 rfl) rfl
theorem gp_0 : Jvm.Cond.selects "ClassDesk$Classes" ⟨"ClassDesk$Classes", "mayBeNamed", "(II)Z"⟩ ⟨"ClassDesk$Classes", "mayBeNamed", "(II)Z"⟩ ∈ am_G := am_in (am_cp (q := (⟨"ClassDesk$Classes", "mayBeNamed", "(II)Z"⟩, 8)) 0 rfl) rfl
theorem gp_1 : Jvm.Cond.selects "ClassDesk$Classes" ⟨"ClassDesk$Classes", "isBelow", "(II)Z"⟩ ⟨"ClassDesk$Classes", "isBelow", "(II)Z"⟩ ∈ am_G := am_in (am_cp (q := (⟨"ClassDesk$Classes", "isBelow", "(II)Z"⟩, 8)) 1 rfl) rfl
theorem gp_2 : Jvm.Cond.selects "ClassDesk$Classes" ⟨"ClassDesk$Classes", "setSupers", "(IIII)V"⟩ ⟨"ClassDesk$Classes", "setSupers", "(IIII)V"⟩ ∈ am_G := am_in (am_cp (q := (⟨"ClassDesk$Classes", "setSupers", "(IIII)V"⟩, 8)) 2 rfl) rfl
theorem gp_3 : Jvm.Cond.selects "ClassDesk$Classes" ⟨"ClassDesk$Classes", "allHavePrecedence", "(I)Z"⟩ ⟨"ClassDesk$Classes", "allHavePrecedence", "(I)Z"⟩ ∈ am_G := am_in (am_cp (q := (⟨"ClassDesk$Classes", "allHavePrecedence", "(I)Z"⟩, 8)) 3 rfl) rfl
theorem gp_4 : Jvm.Cond.selects "ClassDesk$Classes" ⟨"ClassDesk$Classes", "draw", "(I)I"⟩ ⟨"ClassDesk$Classes", "draw", "(I)I"⟩ ∈ am_G := am_in (am_cp (q := (⟨"ClassDesk$Classes", "draw", "(I)I"⟩, 8)) 4 rfl) rfl
theorem gp_5 : Jvm.Cond.selects "ClassDesk$Classes" ⟨"ClassDesk$Classes", "allAbove", "(I)I"⟩ ⟨"ClassDesk$Classes", "allAbove", "(I)I"⟩ ∈ am_G := am_in (am_cp (q := (⟨"ClassDesk$Classes", "allAbove", "(I)I"⟩, 8)) 5 rfl) rfl
theorem gp_6 : Jvm.Cond.selects "ClassDesk$Classes" ⟨"ClassDesk$Classes", "directlyAbove", "(I)I"⟩ ⟨"ClassDesk$Classes", "directlyAbove", "(I)I"⟩ ∈ am_G := am_in (am_cp (q := (⟨"ClassDesk$Classes", "directlyAbove", "(I)I"⟩, 8)) 6 rfl) rfl
theorem gp_7 : Jvm.Cond.selects "ClassDesk$Classes" ⟨"ClassDesk$Classes", "noteWhatStandsBefore", "(I)V"⟩ ⟨"ClassDesk$Classes", "noteWhatStandsBefore", "(I)V"⟩ ∈ am_G := am_in (am_cp (q := (⟨"ClassDesk$Classes", "noteWhatStandsBefore", "(I)V"⟩, 8)) 7 rfl) rfl
theorem gp_8 : Jvm.Cond.selects "ClassDesk$Classes" ⟨"ClassDesk$Classes", "noteWhatStandsBeforeSupers", "(I)V"⟩ ⟨"ClassDesk$Classes", "noteWhatStandsBeforeSupers", "(I)V"⟩ ∈ am_G := am_in (am_cp (q := (⟨"ClassDesk$Classes", "noteWhatStandsBeforeSupers", "(I)V"⟩, 8)) 8 rfl) rfl
theorem gp_9 : Jvm.Cond.selects "ClassDesk$Classes" ⟨"ClassDesk$Classes", "nextInDraft", "(II)I"⟩ ⟨"ClassDesk$Classes", "nextInDraft", "(II)I"⟩ ∈ am_G := am_in (am_cp (q := (⟨"ClassDesk$Classes", "nextInDraft", "(II)I"⟩, 8)) 9 rfl) rfl
theorem gp_10 : Jvm.Cond.selects "ClassDesk$Classes" ⟨"ClassDesk$Classes", "renewRows", "(I)V"⟩ ⟨"ClassDesk$Classes", "renewRows", "(I)V"⟩ ∈ am_G := am_in (am_cp (q := (⟨"ClassDesk$Classes", "renewRows", "(I)V"⟩, 8)) 10 rfl) rfl
theorem gp_11 : Jvm.Cond.selects "ClassDesk$Instances" ⟨"ClassDesk$Instances", "touch", "(I)I"⟩ ⟨"ClassDesk$Instances", "touch", "(I)I"⟩ ∈ am_G := am_in (am_cp (q := (⟨"ClassDesk$Instances", "touch", "(I)I"⟩, 7)) 11 rfl) rfl
theorem gp_12 : Jvm.Cond.selects "ClassDesk$Instances" ⟨"ClassDesk$Instances", "setValue", "(III)V"⟩ ⟨"ClassDesk$Instances", "setValue", "(III)V"⟩ ∈ am_G := am_in (am_cp (q := (⟨"ClassDesk$Instances", "setValue", "(III)V"⟩, 7)) 12 rfl) rfl
theorem gp_13 : Jvm.Cond.selects "ClassDesk" ⟨"ClassDesk", "refusalOfSlot", "(II)I"⟩ ⟨"ClassDesk", "refusalOfSlot", "(II)I"⟩ ∈ am_G := am_in (am_cp (q := (⟨"ClassDesk", "refusalOfSlot", "(II)I"⟩, 8)) 13 rfl) rfl
theorem gp_14 : Jvm.Cond.selects "ClassDesk" ⟨"ClassDesk", "isSpecializerThere", "(I)Z"⟩ ⟨"ClassDesk", "isSpecializerThere", "(I)Z"⟩ ∈ am_G := am_in (am_cp (q := (⟨"ClassDesk", "isSpecializerThere", "(I)Z"⟩, 8)) 14 rfl) rfl
theorem gp_15 : Jvm.Cond.selects "ClassDesk$Methods" ⟨"ClassDesk$Methods", "alike", "(IIII)I"⟩ ⟨"ClassDesk$Methods", "alike", "(IIII)I"⟩ ∈ am_G := am_in (am_cp (q := (⟨"ClassDesk$Methods", "alike", "(IIII)I"⟩, 7)) 15 rfl) rfl
theorem gp_16 : Jvm.Cond.selects "ClassDesk$Methods" ⟨"ClassDesk$Methods", "leastFree", "()I"⟩ ⟨"ClassDesk$Methods", "leastFree", "()I"⟩ ∈ am_G := am_in (am_cp (q := (⟨"ClassDesk$Methods", "leastFree", "()I"⟩, 7)) 16 rfl) rfl
theorem gp_17 : Jvm.Cond.selects "ClassDesk$Machine" ⟨"ClassDesk$Machine", "want", "(III)V"⟩ ⟨"ClassDesk$Machine", "want", "(III)V"⟩ ∈ am_G := am_in (am_cp (q := (⟨"ClassDesk$Machine", "want", "(III)V"⟩, 18)) 17 rfl) rfl
theorem gp_18 : Jvm.Cond.selects "ClassDesk$Machine" ⟨"ClassDesk$Machine", "innermost", "()LClassDesk$Frame;"⟩ ⟨"ClassDesk$Machine", "innermost", "()LClassDesk$Frame;"⟩ ∈ am_G := am_in (am_cp (q := (⟨"ClassDesk$Machine", "innermost", "()LClassDesk$Frame;"⟩, 18)) 18 rfl) rfl
theorem gp_19 : Jvm.Cond.selects "ClassDesk$Machine" ⟨"ClassDesk$Machine", "beginWanted", "()V"⟩ ⟨"ClassDesk$Machine", "beginWanted", "()V"⟩ ∈ am_G := am_in (am_cp (q := (⟨"ClassDesk$Machine", "beginWanted", "()V"⟩, 18)) 19 rfl) rfl
theorem gp_20 : Jvm.Cond.selects "ClassDesk$Keeper" ⟨"ClassDesk$Keeper", "isForInstances", "(III)Z"⟩ ⟨"ClassDesk$Keeper", "isForInstances", "(III)Z"⟩ ∈ am_G := am_in (am_cp (q := (⟨"ClassDesk$Keeper", "isForInstances", "(III)Z"⟩, 8)) 20 rfl) rfl
theorem gp_21 : Jvm.Cond.selects "ClassDesk$Keeper" ⟨"ClassDesk$Keeper", "rankOf", "(III)I"⟩ ⟨"ClassDesk$Keeper", "rankOf", "(III)I"⟩ ∈ am_G := am_in (am_cp (q := (⟨"ClassDesk$Keeper", "rankOf", "(III)I"⟩, 8)) 21 rfl) rfl
theorem gp_22 : Jvm.Cond.selects "ClassDesk$Keeper" ⟨"ClassDesk$Keeper", "rankAt", "(II)I"⟩ ⟨"ClassDesk$Keeper", "rankAt", "(II)I"⟩ ∈ am_G := am_in (am_cp (q := (⟨"ClassDesk$Keeper", "rankAt", "(II)I"⟩, 8)) 22 rfl) rfl
theorem gp_23 : Jvm.Cond.selects "ClassDesk$Keeper" ⟨"ClassDesk$Keeper", "findAnew", "(IIILClassDesk$Effective;)V"⟩ ⟨"ClassDesk$Keeper", "findAnew", "(IIILClassDesk$Effective;)V"⟩ ∈ am_G := am_in (am_cp (q := (⟨"ClassDesk$Keeper", "findAnew", "(IIILClassDesk$Effective;)V"⟩, 8)) 23 rfl) rfl
theorem gp_24 : Jvm.Cond.selects "ClassDesk$Keeper" ⟨"ClassDesk$Keeper", "addKind", "(ILClassDesk$Effective;)V"⟩ ⟨"ClassDesk$Keeper", "addKind", "(ILClassDesk$Effective;)V"⟩ ∈ am_G := am_in (am_cp (q := (⟨"ClassDesk$Keeper", "addKind", "(ILClassDesk$Effective;)V"⟩, 8)) 24 rfl) rfl
theorem gp_25 : Jvm.Cond.selects "ClassDesk$Keeper" ⟨"ClassDesk$Keeper", "placeFor", "(IILClassDesk$Effective;Z)I"⟩ ⟨"ClassDesk$Keeper", "placeFor", "(IILClassDesk$Effective;Z)I"⟩ ∈ am_G := am_in (am_cp (q := (⟨"ClassDesk$Keeper", "placeFor", "(IILClassDesk$Effective;Z)I"⟩, 8)) 25 rfl) rfl
theorem gp_26 : Jvm.Cond.selects "ClassDesk$Machine" ⟨"ClassDesk$Machine", "openFrame", "(LClassDesk$Work;I)V"⟩ ⟨"ClassDesk$Machine", "openFrame", "(LClassDesk$Work;I)V"⟩ ∈ am_G := am_in (am_cp (q := (⟨"ClassDesk$Machine", "openFrame", "(LClassDesk$Work;I)V"⟩, 18)) 26 rfl) rfl
theorem gp_27 : Jvm.Cond.selects "ClassDesk$Machine" ⟨"ClassDesk$Machine", "advance", "(LClassDesk$Frame;)V"⟩ ⟨"ClassDesk$Machine", "advance", "(LClassDesk$Frame;)V"⟩ ∈ am_G := am_in (am_cp (q := (⟨"ClassDesk$Machine", "advance", "(LClassDesk$Frame;)V"⟩, 18)) 27 rfl) rfl
theorem gp_28 : Jvm.Cond.selects "ClassDesk$Machine" ⟨"ClassDesk$Machine", "doNextStep", "(LClassDesk$Frame;)V"⟩ ⟨"ClassDesk$Machine", "doNextStep", "(LClassDesk$Frame;)V"⟩ ∈ am_G := am_in (am_cp (q := (⟨"ClassDesk$Machine", "doNextStep", "(LClassDesk$Frame;)V"⟩, 18)) 28 rfl) rfl
theorem gp_29 : Jvm.Cond.selects "ClassDesk$Machine" ⟨"ClassDesk$Machine", "intOrError", "(J)I"⟩ ⟨"ClassDesk$Machine", "intOrError", "(J)I"⟩ ∈ am_G := am_in (am_cp (q := (⟨"ClassDesk$Machine", "intOrError", "(J)I"⟩, 18)) 29 rfl) rfl
theorem gp_30 : Jvm.Cond.selects "ClassDesk$Machine" ⟨"ClassDesk$Machine", "openNext", "(LClassDesk$Frame;)V"⟩ ⟨"ClassDesk$Machine", "openNext", "(LClassDesk$Frame;)V"⟩ ∈ am_G := am_in (am_cp (q := (⟨"ClassDesk$Machine", "openNext", "(LClassDesk$Frame;)V"⟩, 18)) 30 rfl) rfl
theorem gp_31 : Jvm.Cond.selects "ClassDesk$Machine" ⟨"ClassDesk$Machine", "wantFrom", "(LClassDesk$Frame;I)V"⟩ ⟨"ClassDesk$Machine", "wantFrom", "(LClassDesk$Frame;I)V"⟩ ∈ am_G := am_in (am_cp (q := (⟨"ClassDesk$Machine", "wantFrom", "(LClassDesk$Frame;I)V"⟩, 18)) 31 rfl) rfl
theorem gp_32 : Jvm.Cond.selects "ClassDesk$Machine" ⟨"ClassDesk$Machine", "changeClass", "(LClassDesk$Frame;I)V"⟩ ⟨"ClassDesk$Machine", "changeClass", "(LClassDesk$Frame;I)V"⟩ ∈ am_G := am_in (am_cp (q := (⟨"ClassDesk$Machine", "changeClass", "(LClassDesk$Frame;I)V"⟩, 18)) 32 rfl) rfl
theorem gp_33 : Jvm.Cond.selects "ClassDesk$Machine" ⟨"ClassDesk$Machine", "swap", "(LClassDesk$Frame;)V"⟩ ⟨"ClassDesk$Machine", "swap", "(LClassDesk$Frame;)V"⟩ ∈ am_G := am_in (am_cp (q := (⟨"ClassDesk$Machine", "swap", "(LClassDesk$Frame;)V"⟩, 18)) 33 rfl) rfl
theorem gp_34 : Jvm.Cond.selects "ClassDesk$Machine" ⟨"ClassDesk$Machine", "closeFrame", "(LClassDesk$Frame;)V"⟩ ⟨"ClassDesk$Machine", "closeFrame", "(LClassDesk$Frame;)V"⟩ ∈ am_G := am_in (am_cp (q := (⟨"ClassDesk$Machine", "closeFrame", "(LClassDesk$Frame;)V"⟩, 18)) 34 rfl) rfl
theorem gp_35 : Jvm.Cond.selects "ClassDeskModel" ⟨"ClassDeskModel", "isSub", "(II)Z"⟩ ⟨"ClassDeskModel", "isSub", "(II)Z"⟩ ∈ am_G := am_in (am_cp (q := (⟨"ClassDeskModel", "isSub", "(II)Z"⟩, 43)) 35 rfl) rfl
theorem gp_36 : Jvm.Cond.selects "ClassDeskModel" ⟨"ClassDeskModel", "placeIn", "(II)I"⟩ ⟨"ClassDeskModel", "placeIn", "(II)I"⟩ ∈ am_G := am_in (am_cp (q := (⟨"ClassDeskModel", "placeIn", "(II)I"⟩, 43)) 36 rfl) rfl
theorem gp_37 : Jvm.Cond.selects "ClassDeskModel" ⟨"ClassDeskModel", "arrange", "(I)I"⟩ ⟨"ClassDeskModel", "arrange", "(I)I"⟩ ∈ am_G := am_in (am_cp (q := (⟨"ClassDeskModel", "arrange", "(I)I"⟩, 43)) 37 rfl) rfl
theorem gp_38 : Jvm.Cond.selects "ClassDeskModel" ⟨"ClassDeskModel", "forget", "(I)V"⟩ ⟨"ClassDeskModel", "forget", "(I)V"⟩ ∈ am_G := am_in (am_cp (q := (⟨"ClassDeskModel", "forget", "(I)V"⟩, 43)) 38 rfl) rfl
theorem gp_39 : Jvm.Cond.selects "ClassDeskModel" ⟨"ClassDeskModel", "isClass", "(I)Z"⟩ ⟨"ClassDeskModel", "isClass", "(I)Z"⟩ ∈ am_G := am_in (am_cp (q := (⟨"ClassDeskModel", "isClass", "(I)Z"⟩, 43)) 39 rfl) rfl
theorem gp_40 : Jvm.Cond.selects "ClassDeskModel" ⟨"ClassDeskModel", "follow", "(I)V"⟩ ⟨"ClassDeskModel", "follow", "(I)V"⟩ ∈ am_G := am_in (am_cp (q := (⟨"ClassDeskModel", "follow", "(I)V"⟩, 43)) 40 rfl) rfl
theorem gp_41 : Jvm.Cond.selects "ClassDeskModel" ⟨"ClassDeskModel", "locals", "(I)I"⟩ ⟨"ClassDeskModel", "locals", "(I)I"⟩ ∈ am_G := am_in (am_cp (q := (⟨"ClassDeskModel", "locals", "(I)I"⟩, 43)) 41 rfl) rfl
theorem gp_42 : Jvm.Cond.selects "ClassDeskModel" ⟨"ClassDeskModel", "slotOf", "(II)I"⟩ ⟨"ClassDeskModel", "slotOf", "(II)I"⟩ ∈ am_G := am_in (am_cp (q := (⟨"ClassDeskModel", "slotOf", "(II)I"⟩, 43)) 42 rfl) rfl
theorem gp_43 : Jvm.Cond.selects "ClassDeskModel" ⟨"ClassDeskModel", "isInstance", "(I)Z"⟩ ⟨"ClassDeskModel", "isInstance", "(I)Z"⟩ ∈ am_G := am_in (am_cp (q := (⟨"ClassDeskModel", "isInstance", "(I)Z"⟩, 43)) 43 rfl) rfl
theorem gp_44 : Jvm.Cond.selects "ClassDeskModel" ⟨"ClassDeskModel", "touch", "(I)V"⟩ ⟨"ClassDeskModel", "touch", "(I)V"⟩ ∈ am_G := am_in (am_cp (q := (⟨"ClassDeskModel", "touch", "(I)V"⟩, 43)) 44 rfl) rfl
theorem gp_45 : Jvm.Cond.selects "ClassDeskModel" ⟨"ClassDeskModel", "reach", "(II)I"⟩ ⟨"ClassDeskModel", "reach", "(II)I"⟩ ∈ am_G := am_in (am_cp (q := (⟨"ClassDeskModel", "reach", "(II)I"⟩, 43)) 45 rfl) rfl
theorem gp_46 : Jvm.Cond.selects "ClassDeskModel" ⟨"ClassDeskModel", "fail", "(I)J"⟩ ⟨"ClassDeskModel", "fail", "(I)J"⟩ ∈ am_G := am_in (am_cp (q := (⟨"ClassDeskModel", "fail", "(I)J"⟩, 43)) 46 rfl) rfl
theorem gp_47 : Jvm.Cond.selects "ClassDeskModel" ⟨"ClassDeskModel", "isSpecializer", "(I)Z"⟩ ⟨"ClassDeskModel", "isSpecializer", "(I)Z"⟩ ∈ am_G := am_in (am_cp (q := (⟨"ClassDeskModel", "isSpecializer", "(I)Z"⟩, 43)) 47 rfl) rfl
theorem gp_48 : Jvm.Cond.selects "ClassDeskModel" ⟨"ClassDeskModel", "isThere", "(I)Z"⟩ ⟨"ClassDeskModel", "isThere", "(I)Z"⟩ ∈ am_G := am_in (am_cp (q := (⟨"ClassDeskModel", "isThere", "(I)Z"⟩, 43)) 48 rfl) rfl
theorem gp_49 : Jvm.Cond.selects "ClassDeskModel" ⟨"ClassDeskModel", "enter", "(III)Z"⟩ ⟨"ClassDeskModel", "enter", "(III)Z"⟩ ∈ am_G := am_in (am_cp (q := (⟨"ClassDeskModel", "enter", "(III)Z"⟩, 43)) 49 rfl) rfl
theorem gp_50 : Jvm.Cond.selects "ClassDeskModel" ⟨"ClassDeskModel", "suits", "(II)Z"⟩ ⟨"ClassDeskModel", "suits", "(II)Z"⟩ ∈ am_G := am_in (am_cp (q := (⟨"ClassDeskModel", "suits", "(II)Z"⟩, 43)) 50 rfl) rfl
theorem gp_51 : Jvm.Cond.selects "ClassDeskModel" ⟨"ClassDeskModel", "insert", "(III)V"⟩ ⟨"ClassDeskModel", "insert", "(III)V"⟩ ∈ am_G := am_in (am_cp (q := (⟨"ClassDeskModel", "insert", "(III)V"⟩, 43)) 51 rfl) rfl
theorem gp_52 : Jvm.Cond.selects "ClassDeskModel" ⟨"ClassDeskModel", "isBefore", "(IIII)Z"⟩ ⟨"ClassDeskModel", "isBefore", "(IIII)Z"⟩ ∈ am_G := am_in (am_cp (q := (⟨"ClassDeskModel", "isBefore", "(IIII)Z"⟩, 43)) 52 rfl) rfl
theorem gp_53 : Jvm.Cond.selects "ClassDeskModel" ⟨"ClassDeskModel", "distance", "(II)I"⟩ ⟨"ClassDeskModel", "distance", "(II)I"⟩ ∈ am_G := am_in (am_cp (q := (⟨"ClassDeskModel", "distance", "(II)I"⟩, 43)) 53 rfl) rfl
theorem gp_54 : Jvm.Cond.selects "ClassDeskModel" ⟨"ClassDeskModel", "begin", "(II)V"⟩ ⟨"ClassDeskModel", "begin", "(II)V"⟩ ∈ am_G := am_in (am_cp (q := (⟨"ClassDeskModel", "begin", "(II)V"⟩, 43)) 54 rfl) rfl
theorem gp_55 : Jvm.Cond.selects "ClassDeskModel" ⟨"ClassDeskModel", "manyOf", "(I)I"⟩ ⟨"ClassDeskModel", "manyOf", "(I)I"⟩ ∈ am_G := am_in (am_cp (q := (⟨"ClassDeskModel", "manyOf", "(I)I"⟩, 43)) 55 rfl) rfl
theorem gp_56 : Jvm.Cond.selects "ClassDeskModel" ⟨"ClassDeskModel", "work", "()Z"⟩ ⟨"ClassDeskModel", "work", "()Z"⟩ ∈ am_G := am_in (am_cp (q := (⟨"ClassDeskModel", "work", "()Z"⟩, 43)) 56 rfl) rfl
theorem gp_57 : Jvm.Cond.selects "ClassDeskModel" ⟨"ClassDeskModel", "middle", "(I)V"⟩ ⟨"ClassDeskModel", "middle", "(I)V"⟩ ∈ am_G := am_in (am_cp (q := (⟨"ClassDeskModel", "middle", "(I)V"⟩, 43)) 57 rfl) rfl
theorem gp_58 : Jvm.Cond.selects "ClassDeskModel" ⟨"ClassDeskModel", "give", "(I)V"⟩ ⟨"ClassDeskModel", "give", "(I)V"⟩ ∈ am_G := am_in (am_cp (q := (⟨"ClassDeskModel", "give", "(I)V"⟩, 43)) 58 rfl) rfl
theorem gp_59 : Jvm.Cond.selects "ClassDeskModel" ⟨"ClassDeskModel", "stop", "(I)Z"⟩ ⟨"ClassDeskModel", "stop", "(I)Z"⟩ ∈ am_G := am_in (am_cp (q := (⟨"ClassDeskModel", "stop", "(I)Z"⟩, 43)) 59 rfl) rfl
theorem gp_60 : Jvm.Cond.selects "ClassDeskModel" ⟨"ClassDeskModel", "act", "(III)Z"⟩ ⟨"ClassDeskModel", "act", "(III)Z"⟩ ∈ am_G := am_in (am_cp (q := (⟨"ClassDeskModel", "act", "(III)Z"⟩, 43)) 60 rfl) rfl
