theorem jw1 {w : Cond} (h : w ∈ tables_1_1) : w ∈ lw_tbl := List.mem_append_right _ (List.mem_append_left _ h)
theorem jw2 {w : Cond} (h : w ∈ tables_1_2) : w ∈ lw_tbl := List.mem_append_right _ (List.mem_append_right _ (List.mem_append_left _ h))
theorem jw3 {w : Cond} (h : w ∈ tables_1_3) : w ∈ lw_tbl := List.mem_append_right _ (List.mem_append_right _ (List.mem_append_right _ (List.mem_append_left _ h)))
theorem jw4 {w : Cond} (h : w ∈ tables_1_4) : w ∈ lw_tbl := List.mem_append_right _ (List.mem_append_right _ (List.mem_append_right _ (List.mem_append_right _ (List.mem_append_left _ h))))
theorem jw5 {w : Cond} (h : w ∈ tables_1_5) : w ∈ lw_tbl := List.mem_append_right _ (List.mem_append_right _ (List.mem_append_right _ (List.mem_append_right _ (List.mem_append_right _ h))))
theorem jwp {q : MethodName × Nat} (h : q ∈ lw_privs) : Cond.selects q.1.cls q.1 q.1 ∈ jW := List.mem_filter.mpr ⟨List.mem_append_left _ (List.mem_map.mpr ⟨q, h, rfl⟩), rfl⟩
theorem tw_0 : (Cond.initialized "ChargePostsLaw") ∈ jW := List.mem_filter.mpr ⟨jw1 (List.mem_of_getElem? (i := 0) rfl), rfl⟩
theorem tw_1 : (Cond.initialized "ChargePosts") ∈ jW := List.mem_filter.mpr ⟨jw1 (List.mem_of_getElem? (i := 1) rfl), rfl⟩
theorem tw_2 : (Cond.initialized "ChargePosts$Text") ∈ jW := List.mem_filter.mpr ⟨jw1 (List.mem_of_getElem? (i := 2) rfl), rfl⟩
theorem tw_3 : (Cond.initialized "ChargePosts$Site") ∈ jW := List.mem_filter.mpr ⟨jw1 (List.mem_of_getElem? (i := 3) rfl), rfl⟩
theorem tw_4 : (Cond.initialized "ChargePosts$Feed") ∈ jW := List.mem_filter.mpr ⟨jw1 (List.mem_of_getElem? (i := 4) rfl), rfl⟩
theorem tw_5 : (Cond.initialized "ChargePosts$State") ∈ jW := List.mem_filter.mpr ⟨jw1 (List.mem_of_getElem? (i := 5) rfl), rfl⟩
theorem tw_6 : (Cond.initialized "ChargePosts$History") ∈ jW := List.mem_filter.mpr ⟨jw1 (List.mem_of_getElem? (i := 6) rfl), rfl⟩
theorem tw_7 : (Cond.initialized "ChargePosts$Observations") ∈ jW := List.mem_filter.mpr ⟨jw1 (List.mem_of_getElem? (i := 7) rfl), rfl⟩
theorem tw_8 : (Cond.initialized "ChargePostsModel") ∈ jW := List.mem_filter.mpr ⟨jw1 (List.mem_of_getElem? (i := 8) rfl), rfl⟩
theorem tw_9 : (Cond.initialized "java/lang/System") ∈ jW := List.mem_filter.mpr ⟨jw1 (List.mem_of_getElem? (i := 9) rfl), rfl⟩
theorem tw_10 : (Cond.initialized "java/lang/Math") ∈ jW := List.mem_filter.mpr ⟨jw1 (List.mem_of_getElem? (i := 10) rfl), rfl⟩
theorem tw_11 : (Cond.initialized "java/lang/Integer") ∈ jW := List.mem_filter.mpr ⟨jw1 (List.mem_of_getElem? (i := 11) rfl), rfl⟩
theorem tw_12 : (Cond.classLink "ChargePostsLaw" (7 : Nat) "ChargePosts") ∈ jW := List.mem_filter.mpr ⟨jw1 (List.mem_of_getElem? (i := 12) rfl), rfl⟩
theorem tw_13 : (Cond.instantiable "ChargePosts" (11 : Nat)) ∈ jW := List.mem_filter.mpr ⟨jw1 (List.mem_of_getElem? (i := 13) rfl), rfl⟩
theorem tw_14 : (Cond.methodLink "ChargePostsLaw" (9 : Nat) ({ cls := "ChargePosts", name := "<init>", desc := "()V" } : MethodName)) ∈ jW := List.mem_filter.mpr ⟨jw1 (List.mem_of_getElem? (i := 14) rfl), rfl⟩
theorem tw_15 : (Cond.instanceMethod ({ cls := "ChargePosts", name := "<init>", desc := "()V" } : MethodName)) ∈ jW := List.mem_filter.mpr ⟨jw1 (List.mem_of_getElem? (i := 15) rfl), rfl⟩
theorem tw_16 : (Cond.code ({ cls := "ChargePosts", name := "<init>", desc := "()V" } : MethodName) prog_1_method_1_code (2 : Nat) (Option.none : Option FieldType)) ∈ jW := List.mem_filter.mpr ⟨jw1 (List.mem_of_getElem? (i := 16) rfl), rfl⟩
theorem tw_17 : (Cond.methodLink "ChargePosts" (3 : Nat) ({ cls := "java/lang/Object", name := "<init>", desc := "()V" } : MethodName)) ∈ jW := List.mem_filter.mpr ⟨jw1 (List.mem_of_getElem? (i := 17) rfl), rfl⟩
theorem tw_18 : (Cond.instanceMethod ({ cls := "java/lang/Object", name := "<init>", desc := "()V" } : MethodName)) ∈ jW := List.mem_filter.mpr ⟨jw1 (List.mem_of_getElem? (i := 18) rfl), rfl⟩
theorem tw_19 : (Cond.code ({ cls := "java/lang/Object", name := "<init>", desc := "()V" } : MethodName) object_method_1_code (1 : Nat) (Option.none : Option FieldType)) ∈ jW := List.mem_filter.mpr ⟨jw1 (List.mem_of_getElem? (i := 19) rfl), rfl⟩
theorem tw_20 : (Cond.classLink "ChargePosts" (9 : Nat) "ChargePosts$Text") ∈ jW := List.mem_filter.mpr ⟨jw1 (List.mem_of_getElem? (i := 20) rfl), rfl⟩
theorem tw_21 : (Cond.instantiable "ChargePosts$Text" (2 : Nat)) ∈ jW := List.mem_filter.mpr ⟨jw1 (List.mem_of_getElem? (i := 21) rfl), rfl⟩
theorem tw_23 : (Cond.instanceMethod ({ cls := "ChargePosts$Text", name := "<init>", desc := "()V" } : MethodName)) ∈ jW := List.mem_filter.mpr ⟨jw1 (List.mem_of_getElem? (i := 23) rfl), rfl⟩
theorem tw_24 : (Cond.code ({ cls := "ChargePosts$Text", name := "<init>", desc := "()V" } : MethodName) prog_7_method_1_code (1 : Nat) (Option.none : Option FieldType)) ∈ jW := List.mem_filter.mpr ⟨jw1 (List.mem_of_getElem? (i := 24) rfl), rfl⟩
theorem tw_25 : (Cond.methodLink "ChargePosts$Text" (3 : Nat) ({ cls := "java/lang/Object", name := "<init>", desc := "()V" } : MethodName)) ∈ jW := List.mem_filter.mpr ⟨jw1 (List.mem_of_getElem? (i := 25) rfl), rfl⟩
theorem tw_26 : (Cond.fieldLink "ChargePosts$Text" (9 : Nat) "ChargePosts$Text" "bytes" "[I") ∈ jW := List.mem_filter.mpr ⟨jw1 (List.mem_of_getElem? (i := 26) rfl), rfl⟩
theorem tw_27 : (Cond.fieldLink "ChargePosts$Text" (15 : Nat) "ChargePosts$Text" "length" "I") ∈ jW := List.mem_filter.mpr ⟨jw1 (List.mem_of_getElem? (i := 27) rfl), rfl⟩
theorem tw_28 : (Cond.fieldLink "ChargePosts" (71 : Nat) "ChargePosts$Text" "length" "I") ∈ jW := List.mem_filter.mpr ⟨jw1 (List.mem_of_getElem? (i := 28) rfl), rfl⟩
theorem tw_29 : (Cond.fieldLink "ChargePosts$Site" (37 : Nat) "ChargePosts$Text" "length" "I") ∈ jW := List.mem_filter.mpr ⟨jw1 (List.mem_of_getElem? (i := 29) rfl), rfl⟩
theorem tw_30 : (Cond.laysFinal "ChargePosts$Text" "ChargePosts$Text" "bytes" "[I") ∈ jW := List.mem_filter.mpr ⟨jw1 (List.mem_of_getElem? (i := 30) rfl), rfl⟩
theorem tw_32 : (Cond.lays "ChargePosts$Text" "ChargePosts$Text" "length" "I") ∈ jW := List.mem_filter.mpr ⟨jw1 (List.mem_of_getElem? (i := 32) rfl), rfl⟩
theorem tw_35 : (Cond.arrayClass FieldType.int) ∈ jW := List.mem_filter.mpr ⟨jw1 (List.mem_of_getElem? (i := 35) rfl), rfl⟩
theorem tw_36 : (Cond.classLink "ChargePosts" (16 : Nat) "ChargePosts$Site") ∈ jW := List.mem_filter.mpr ⟨jw1 (List.mem_of_getElem? (i := 36) rfl), rfl⟩
theorem tw_37 : (Cond.instantiable "ChargePosts$Site" (6 : Nat)) ∈ jW := List.mem_filter.mpr ⟨jw1 (List.mem_of_getElem? (i := 37) rfl), rfl⟩
theorem tw_39 : (Cond.instanceMethod ({ cls := "ChargePosts$Site", name := "<init>", desc := "()V" } : MethodName)) ∈ jW := List.mem_filter.mpr ⟨jw1 (List.mem_of_getElem? (i := 39) rfl), rfl⟩
theorem tw_40 : (Cond.code ({ cls := "ChargePosts$Site", name := "<init>", desc := "()V" } : MethodName) prog_5_method_1_code (1 : Nat) (Option.none : Option FieldType)) ∈ jW := List.mem_filter.mpr ⟨jw1 (List.mem_of_getElem? (i := 40) rfl), rfl⟩
theorem tw_41 : (Cond.methodLink "ChargePosts$Site" (3 : Nat) ({ cls := "java/lang/Object", name := "<init>", desc := "()V" } : MethodName)) ∈ jW := List.mem_filter.mpr ⟨jw1 (List.mem_of_getElem? (i := 41) rfl), rfl⟩
theorem tw_42 : (Cond.fieldLink "ChargePosts$Site" (9 : Nat) "ChargePosts$Site" "amps" "[I") ∈ jW := List.mem_filter.mpr ⟨jw1 (List.mem_of_getElem? (i := 42) rfl), rfl⟩
theorem tw_43 : (Cond.fieldLink "ChargePosts$Site" (15 : Nat) "ChargePosts$Site" "traits" "[I") ∈ jW := List.mem_filter.mpr ⟨jw1 (List.mem_of_getElem? (i := 43) rfl), rfl⟩
theorem tw_44 : (Cond.fieldLink "ChargePosts$Site" (22 : Nat) "ChargePosts$Site" "posts" "I") ∈ jW := List.mem_filter.mpr ⟨jw1 (List.mem_of_getElem? (i := 44) rfl), rfl⟩
theorem tw_45 : (Cond.fieldLink "ChargePosts" (89 : Nat) "ChargePosts$Site" "posts" "I") ∈ jW := List.mem_filter.mpr ⟨jw1 (List.mem_of_getElem? (i := 45) rfl), rfl⟩
theorem tw_46 : (Cond.fieldLink "ChargePosts$Feed" (109 : Nat) "ChargePosts$Site" "posts" "I") ∈ jW := List.mem_filter.mpr ⟨jw1 (List.mem_of_getElem? (i := 46) rfl), rfl⟩
theorem tw_47 : (Cond.fieldLink "ChargePosts$Site" (25 : Nat) "ChargePosts$Site" "cars" "I") ∈ jW := List.mem_filter.mpr ⟨jw1 (List.mem_of_getElem? (i := 47) rfl), rfl⟩
theorem tw_48 : (Cond.fieldLink "ChargePosts" (92 : Nat) "ChargePosts$Site" "cars" "I") ∈ jW := List.mem_filter.mpr ⟨jw1 (List.mem_of_getElem? (i := 48) rfl), rfl⟩
theorem tw_49 : (Cond.fieldLink "ChargePosts$Site" (34 : Nat) "ChargePosts$Site" "firstLimit" "I") ∈ jW := List.mem_filter.mpr ⟨jw1 (List.mem_of_getElem? (i := 49) rfl), rfl⟩
theorem tw_50 : (Cond.fieldLink "ChargePosts$State" (36 : Nat) "ChargePosts$Site" "firstLimit" "I") ∈ jW := List.mem_filter.mpr ⟨jw1 (List.mem_of_getElem? (i := 50) rfl), rfl⟩
theorem tw_51 : (Cond.fieldLink "ChargePosts$Site" (18 : Nat) "ChargePosts$Site" "patience" "I") ∈ jW := List.mem_filter.mpr ⟨jw1 (List.mem_of_getElem? (i := 51) rfl), rfl⟩
theorem tw_52 : (Cond.fieldLink "ChargePosts" (98 : Nat) "ChargePosts$Site" "patience" "I") ∈ jW := List.mem_filter.mpr ⟨jw1 (List.mem_of_getElem? (i := 52) rfl), rfl⟩
theorem tw_53 : (Cond.fieldLink "ChargePosts$Feed" (116 : Nat) "ChargePosts$Site" "patience" "I") ∈ jW := List.mem_filter.mpr ⟨jw1 (List.mem_of_getElem? (i := 53) rfl), rfl⟩
theorem tw_54 : (Cond.laysFinal "ChargePosts$Site" "ChargePosts$Site" "amps" "[I") ∈ jW := List.mem_filter.mpr ⟨jw1 (List.mem_of_getElem? (i := 54) rfl), rfl⟩
theorem tw_56 : (Cond.laysFinal "ChargePosts$Site" "ChargePosts$Site" "traits" "[I") ∈ jW := List.mem_filter.mpr ⟨jw1 (List.mem_of_getElem? (i := 56) rfl), rfl⟩
theorem tw_58 : (Cond.lays "ChargePosts$Site" "ChargePosts$Site" "posts" "I") ∈ jW := List.mem_filter.mpr ⟨jw1 (List.mem_of_getElem? (i := 58) rfl), rfl⟩
theorem tw_60 : (Cond.lays "ChargePosts$Site" "ChargePosts$Site" "cars" "I") ∈ jW := List.mem_filter.mpr ⟨jw1 (List.mem_of_getElem? (i := 60) rfl), rfl⟩
theorem tw_62 : (Cond.lays "ChargePosts$Site" "ChargePosts$Site" "firstLimit" "I") ∈ jW := List.mem_filter.mpr ⟨jw1 (List.mem_of_getElem? (i := 62) rfl), rfl⟩
theorem tw_64 : (Cond.lays "ChargePosts$Site" "ChargePosts$Site" "patience" "I") ∈ jW := List.mem_filter.mpr ⟨jw1 (List.mem_of_getElem? (i := 64) rfl), rfl⟩
theorem tw_67 : (Cond.classLink "ChargePosts" (23 : Nat) "ChargePosts$Feed") ∈ jW := List.mem_filter.mpr ⟨jw1 (List.mem_of_getElem? (i := 67) rfl), rfl⟩
theorem tw_68 : (Cond.instantiable "ChargePosts$Feed" (3 : Nat)) ∈ jW := List.mem_filter.mpr ⟨jw1 (List.mem_of_getElem? (i := 68) rfl), rfl⟩
theorem tw_69 : (Cond.methodLink "ChargePosts" (25 : Nat) ({ cls := "ChargePosts$Feed", name := "<init>", desc := "(LChargePosts$Site;)V" } : MethodName)) ∈ jW := List.mem_filter.mpr ⟨jw1 (List.mem_of_getElem? (i := 69) rfl), rfl⟩
theorem tw_70 : (Cond.instanceMethod ({ cls := "ChargePosts$Feed", name := "<init>", desc := "(LChargePosts$Site;)V" } : MethodName)) ∈ jW := List.mem_filter.mpr ⟨jw1 (List.mem_of_getElem? (i := 70) rfl), rfl⟩
theorem tw_71 : (Cond.code ({ cls := "ChargePosts$Feed", name := "<init>", desc := "(LChargePosts$Site;)V" } : MethodName) prog_2_method_1_code (2 : Nat) (Option.none : Option FieldType)) ∈ jW := List.mem_filter.mpr ⟨jw1 (List.mem_of_getElem? (i := 71) rfl), rfl⟩
theorem tw_72 : (Cond.methodLink "ChargePosts$Feed" (3 : Nat) ({ cls := "java/lang/Object", name := "<init>", desc := "()V" } : MethodName)) ∈ jW := List.mem_filter.mpr ⟨jw1 (List.mem_of_getElem? (i := 72) rfl), rfl⟩
theorem tw_73 : (Cond.fieldLink "ChargePosts$Feed" (18 : Nat) "ChargePosts$Feed" "site" "LChargePosts$Site;") ∈ jW := List.mem_filter.mpr ⟨jw1 (List.mem_of_getElem? (i := 73) rfl), rfl⟩
theorem tw_74 : (Cond.fieldLink "ChargePosts$Feed" (9 : Nat) "ChargePosts$Feed" "order" "[I") ∈ jW := List.mem_filter.mpr ⟨jw1 (List.mem_of_getElem? (i := 74) rfl), rfl⟩
theorem tw_75 : (Cond.fieldLink "ChargePosts$Feed" (15 : Nat) "ChargePosts$Feed" "given" "[I") ∈ jW := List.mem_filter.mpr ⟨jw1 (List.mem_of_getElem? (i := 75) rfl), rfl⟩
theorem tw_76 : (Cond.laysFinal "ChargePosts$Feed" "ChargePosts$Feed" "site" "LChargePosts$Site;") ∈ jW := List.mem_filter.mpr ⟨jw1 (List.mem_of_getElem? (i := 76) rfl), rfl⟩
theorem tw_78 : (Cond.laysFinal "ChargePosts$Feed" "ChargePosts$Feed" "order" "[I") ∈ jW := List.mem_filter.mpr ⟨jw1 (List.mem_of_getElem? (i := 78) rfl), rfl⟩
theorem tw_80 : (Cond.laysFinal "ChargePosts$Feed" "ChargePosts$Feed" "given" "[I") ∈ jW := List.mem_filter.mpr ⟨jw1 (List.mem_of_getElem? (i := 80) rfl), rfl⟩
theorem tw_83 : (Cond.classLink "ChargePosts" (32 : Nat) "ChargePosts$State") ∈ jW := List.mem_filter.mpr ⟨jw1 (List.mem_of_getElem? (i := 83) rfl), rfl⟩
theorem tw_84 : (Cond.instantiable "ChargePosts$State" (4 : Nat)) ∈ jW := List.mem_filter.mpr ⟨jw1 (List.mem_of_getElem? (i := 84) rfl), rfl⟩
theorem tw_86 : (Cond.instanceMethod ({ cls := "ChargePosts$State", name := "<init>", desc := "()V" } : MethodName)) ∈ jW := List.mem_filter.mpr ⟨jw1 (List.mem_of_getElem? (i := 86) rfl), rfl⟩
theorem tw_87 : (Cond.code ({ cls := "ChargePosts$State", name := "<init>", desc := "()V" } : MethodName) prog_6_method_1_code (1 : Nat) (Option.none : Option FieldType)) ∈ jW := List.mem_filter.mpr ⟨jw1 (List.mem_of_getElem? (i := 87) rfl), rfl⟩
theorem tw_88 : (Cond.methodLink "ChargePosts$State" (3 : Nat) ({ cls := "java/lang/Object", name := "<init>", desc := "()V" } : MethodName)) ∈ jW := List.mem_filter.mpr ⟨jw1 (List.mem_of_getElem? (i := 88) rfl), rfl⟩
theorem tw_89 : (Cond.fieldLink "ChargePosts$State" (11 : Nat) "ChargePosts$State" "cells" "[I") ∈ jW := List.mem_filter.mpr ⟨jw1 (List.mem_of_getElem? (i := 89) rfl), rfl⟩
theorem tw_90 : (Cond.fieldLink "ChargePosts$State" (15 : Nat) "ChargePosts$State" "rest" "[I") ∈ jW := List.mem_filter.mpr ⟨jw1 (List.mem_of_getElem? (i := 90) rfl), rfl⟩
theorem tw_91 : (Cond.fieldLink "ChargePosts$State" (40 : Nat) "ChargePosts$State" "limit" "I") ∈ jW := List.mem_filter.mpr ⟨jw1 (List.mem_of_getElem? (i := 91) rfl), rfl⟩
theorem tw_92 : (Cond.fieldLink "ChargePosts" (95 : Nat) "ChargePosts$State" "limit" "I") ∈ jW := List.mem_filter.mpr ⟨jw1 (List.mem_of_getElem? (i := 92) rfl), rfl⟩
theorem tw_93 : (Cond.fieldLink "ChargePosts$Feed" (86 : Nat) "ChargePosts$State" "limit" "I") ∈ jW := List.mem_filter.mpr ⟨jw1 (List.mem_of_getElem? (i := 93) rfl), rfl⟩
theorem tw_94 : (Cond.fieldLink "ChargePosts$State" (43 : Nat) "ChargePosts$State" "minute" "I") ∈ jW := List.mem_filter.mpr ⟨jw1 (List.mem_of_getElem? (i := 94) rfl), rfl⟩
theorem tw_95 : (Cond.fieldLink "ChargePosts" (101 : Nat) "ChargePosts$State" "minute" "I") ∈ jW := List.mem_filter.mpr ⟨jw1 (List.mem_of_getElem? (i := 95) rfl), rfl⟩
theorem tw_96 : (Cond.fieldLink "ChargePosts$Feed" (103 : Nat) "ChargePosts$State" "minute" "I") ∈ jW := List.mem_filter.mpr ⟨jw1 (List.mem_of_getElem? (i := 96) rfl), rfl⟩
theorem tw_97 : (Cond.laysFinal "ChargePosts$State" "ChargePosts$State" "cells" "[I") ∈ jW := List.mem_filter.mpr ⟨jw1 (List.mem_of_getElem? (i := 97) rfl), rfl⟩
theorem tw_99 : (Cond.laysFinal "ChargePosts$State" "ChargePosts$State" "rest" "[I") ∈ jW := List.mem_filter.mpr ⟨jw1 (List.mem_of_getElem? (i := 99) rfl), rfl⟩
theorem tw_101 : (Cond.lays "ChargePosts$State" "ChargePosts$State" "limit" "I") ∈ jW := List.mem_filter.mpr ⟨jw1 (List.mem_of_getElem? (i := 101) rfl), rfl⟩
theorem tw_103 : (Cond.lays "ChargePosts$State" "ChargePosts$State" "minute" "I") ∈ jW := List.mem_filter.mpr ⟨jw1 (List.mem_of_getElem? (i := 103) rfl), rfl⟩
theorem tw_106 : (Cond.classLink "ChargePosts" (42 : Nat) "ChargePosts$History") ∈ jW := List.mem_filter.mpr ⟨jw1 (List.mem_of_getElem? (i := 106) rfl), rfl⟩
theorem tw_107 : (Cond.instantiable "ChargePosts$History" (3 : Nat)) ∈ jW := List.mem_filter.mpr ⟨jw1 (List.mem_of_getElem? (i := 107) rfl), rfl⟩
theorem tw_108 : (Cond.methodLink "ChargePosts" (44 : Nat) ({ cls := "ChargePosts$History", name := "<init>", desc := "()V" } : MethodName)) ∈ jW := List.mem_filter.mpr ⟨jw1 (List.mem_of_getElem? (i := 108) rfl), rfl⟩
theorem tw_109 : (Cond.instanceMethod ({ cls := "ChargePosts$History", name := "<init>", desc := "()V" } : MethodName)) ∈ jW := List.mem_filter.mpr ⟨jw1 (List.mem_of_getElem? (i := 109) rfl), rfl⟩
theorem tw_110 : (Cond.code ({ cls := "ChargePosts$History", name := "<init>", desc := "()V" } : MethodName) prog_3_method_1_code (2 : Nat) (Option.none : Option FieldType)) ∈ jW := List.mem_filter.mpr ⟨jw1 (List.mem_of_getElem? (i := 110) rfl), rfl⟩
theorem tw_111 : (Cond.methodLink "ChargePosts$History" (3 : Nat) ({ cls := "java/lang/Object", name := "<init>", desc := "()V" } : MethodName)) ∈ jW := List.mem_filter.mpr ⟨jw1 (List.mem_of_getElem? (i := 111) rfl), rfl⟩
theorem tw_112 : (Cond.classLink "ChargePosts$History" (9 : Nat) "ChargePosts$State") ∈ jW := List.mem_filter.mpr ⟨jw1 (List.mem_of_getElem? (i := 112) rfl), rfl⟩
theorem tw_115 : (Cond.fieldLink "ChargePosts$History" (11 : Nat) "ChargePosts$History" "ring" "[LChargePosts$State;") ∈ jW := List.mem_filter.mpr ⟨jw1 (List.mem_of_getElem? (i := 115) rfl), rfl⟩
theorem tw_116 : (Cond.fieldLink "ChargePosts$History" (18 : Nat) "ChargePosts$History" "next" "I") ∈ jW := List.mem_filter.mpr ⟨jw1 (List.mem_of_getElem? (i := 116) rfl), rfl⟩
theorem tw_117 : (Cond.fieldLink "ChargePosts$History" (26 : Nat) "ChargePosts$History" "count" "I") ∈ jW := List.mem_filter.mpr ⟨jw1 (List.mem_of_getElem? (i := 117) rfl), rfl⟩
theorem tw_118 : (Cond.fieldLink "ChargePosts" (83 : Nat) "ChargePosts$History" "count" "I") ∈ jW := List.mem_filter.mpr ⟨jw1 (List.mem_of_getElem? (i := 118) rfl), rfl⟩
theorem tw_119 : (Cond.laysFinal "ChargePosts$History" "ChargePosts$History" "ring" "[LChargePosts$State;") ∈ jW := List.mem_filter.mpr ⟨jw1 (List.mem_of_getElem? (i := 119) rfl), rfl⟩
theorem tw_121 : (Cond.lays "ChargePosts$History" "ChargePosts$History" "next" "I") ∈ jW := List.mem_filter.mpr ⟨jw1 (List.mem_of_getElem? (i := 121) rfl), rfl⟩
theorem tw_123 : (Cond.lays "ChargePosts$History" "ChargePosts$History" "count" "I") ∈ jW := List.mem_filter.mpr ⟨jw1 (List.mem_of_getElem? (i := 123) rfl), rfl⟩
theorem tw_126 : (Cond.classLink "ChargePosts" (53 : Nat) "ChargePosts$Observations") ∈ jW := List.mem_filter.mpr ⟨jw1 (List.mem_of_getElem? (i := 126) rfl), rfl⟩
theorem tw_127 : (Cond.instantiable "ChargePosts$Observations" (4 : Nat)) ∈ jW := List.mem_filter.mpr ⟨jw1 (List.mem_of_getElem? (i := 127) rfl), rfl⟩
theorem tw_129 : (Cond.instanceMethod ({ cls := "ChargePosts$Observations", name := "<init>", desc := "()V" } : MethodName)) ∈ jW := List.mem_filter.mpr ⟨jw1 (List.mem_of_getElem? (i := 129) rfl), rfl⟩
theorem tw_130 : (Cond.code ({ cls := "ChargePosts$Observations", name := "<init>", desc := "()V" } : MethodName) prog_4_method_1_code (1 : Nat) (Option.none : Option FieldType)) ∈ jW := List.mem_filter.mpr ⟨jw1 (List.mem_of_getElem? (i := 130) rfl), rfl⟩
theorem tw_131 : (Cond.methodLink "ChargePosts$Observations" (3 : Nat) ({ cls := "java/lang/Object", name := "<init>", desc := "()V" } : MethodName)) ∈ jW := List.mem_filter.mpr ⟨jw1 (List.mem_of_getElem? (i := 131) rfl), rfl⟩
theorem tw_132 : (Cond.fieldLink "ChargePosts$Observations" (9 : Nat) "ChargePosts$Observations" "posts" "[I") ∈ jW := List.mem_filter.mpr ⟨jw1 (List.mem_of_getElem? (i := 132) rfl), rfl⟩
theorem tw_133 : (Cond.fieldLink "ChargePosts$Observations" (15 : Nat) "ChargePosts$Observations" "minutes" "[I") ∈ jW := List.mem_filter.mpr ⟨jw1 (List.mem_of_getElem? (i := 133) rfl), rfl⟩
theorem tw_134 : (Cond.fieldLink "ChargePosts$Observations" (18 : Nat) "ChargePosts$Observations" "values" "[I") ∈ jW := List.mem_filter.mpr ⟨jw1 (List.mem_of_getElem? (i := 134) rfl), rfl⟩
theorem tw_135 : (Cond.fieldLink "ChargePosts$Observations" (21 : Nat) "ChargePosts$Observations" "count" "I") ∈ jW := List.mem_filter.mpr ⟨jw1 (List.mem_of_getElem? (i := 135) rfl), rfl⟩
theorem tw_136 : (Cond.fieldLink "ChargePosts" (114 : Nat) "ChargePosts$Observations" "count" "I") ∈ jW := List.mem_filter.mpr ⟨jw1 (List.mem_of_getElem? (i := 136) rfl), rfl⟩
theorem tw_137 : (Cond.laysFinal "ChargePosts$Observations" "ChargePosts$Observations" "posts" "[I") ∈ jW := List.mem_filter.mpr ⟨jw1 (List.mem_of_getElem? (i := 137) rfl), rfl⟩
theorem tw_139 : (Cond.laysFinal "ChargePosts$Observations" "ChargePosts$Observations" "minutes" "[I") ∈ jW := List.mem_filter.mpr ⟨jw1 (List.mem_of_getElem? (i := 139) rfl), rfl⟩
theorem tw_141 : (Cond.laysFinal "ChargePosts$Observations" "ChargePosts$Observations" "values" "[I") ∈ jW := List.mem_filter.mpr ⟨jw1 (List.mem_of_getElem? (i := 141) rfl), rfl⟩
theorem tw_143 : (Cond.lays "ChargePosts$Observations" "ChargePosts$Observations" "count" "I") ∈ jW := List.mem_filter.mpr ⟨jw1 (List.mem_of_getElem? (i := 143) rfl), rfl⟩
theorem tw_146 : (Cond.methodLink "ChargePosts" (64 : Nat) ({ cls := "ChargePosts$State", name := "begin", desc := "(LChargePosts$Site;)V" } : MethodName)) ∈ jW := List.mem_filter.mpr ⟨jw1 (List.mem_of_getElem? (i := 146) rfl), rfl⟩
theorem tw_147 : (Cond.instanceMethod ({ cls := "ChargePosts$State", name := "begin", desc := "(LChargePosts$Site;)V" } : MethodName)) ∈ jW := List.mem_filter.mpr ⟨jw1 (List.mem_of_getElem? (i := 147) rfl), rfl⟩
theorem tw_148 : (Cond.selects "ChargePosts$State" ({ cls := "ChargePosts$State", name := "begin", desc := "(LChargePosts$Site;)V" } : MethodName) ({ cls := "ChargePosts$State", name := "begin", desc := "(LChargePosts$Site;)V" } : MethodName)) ∈ jW := List.mem_filter.mpr ⟨jw1 (List.mem_of_getElem? (i := 148) rfl), rfl⟩
theorem tw_149 : (Cond.code ({ cls := "ChargePosts$State", name := "begin", desc := "(LChargePosts$Site;)V" } : MethodName) prog_6_method_2_code (3 : Nat) (Option.none : Option FieldType)) ∈ jW := List.mem_filter.mpr ⟨jw1 (List.mem_of_getElem? (i := 149) rfl), rfl⟩
theorem tw_150 : (Cond.methodLink "ChargePosts$State" (18 : Nat) ({ cls := "ChargePosts$State", name := "set", desc := "(III)V" } : MethodName)) ∈ jW := List.mem_filter.mpr ⟨jw1 (List.mem_of_getElem? (i := 150) rfl), rfl⟩
theorem tw_151 : (Cond.instanceMethod ({ cls := "ChargePosts$State", name := "set", desc := "(III)V" } : MethodName)) ∈ jW := List.mem_filter.mpr ⟨jw1 (List.mem_of_getElem? (i := 151) rfl), rfl⟩
theorem tw_152 : (Cond.selects "ChargePosts$State" ({ cls := "ChargePosts$State", name := "set", desc := "(III)V" } : MethodName) ({ cls := "ChargePosts$State", name := "set", desc := "(III)V" } : MethodName)) ∈ jW := List.mem_filter.mpr ⟨jw1 (List.mem_of_getElem? (i := 152) rfl), rfl⟩
theorem tw_153 : (Cond.code ({ cls := "ChargePosts$State", name := "set", desc := "(III)V" } : MethodName) prog_6_method_5_code (4 : Nat) (Option.none : Option FieldType)) ∈ jW := List.mem_filter.mpr ⟨jw1 (List.mem_of_getElem? (i := 153) rfl), rfl⟩
theorem tw_154 : (Cond.methodLink "ChargePosts$State" (22 : Nat) ({ cls := "ChargePosts$State", name := "restart", desc := "(II)V" } : MethodName)) ∈ jW := List.mem_filter.mpr ⟨jw1 (List.mem_of_getElem? (i := 154) rfl), rfl⟩
theorem tw_155 : (Cond.instanceMethod ({ cls := "ChargePosts$State", name := "restart", desc := "(II)V" } : MethodName)) ∈ jW := List.mem_filter.mpr ⟨jw1 (List.mem_of_getElem? (i := 155) rfl), rfl⟩
theorem tw_156 : (Cond.selects "ChargePosts$State" ({ cls := "ChargePosts$State", name := "restart", desc := "(II)V" } : MethodName) ({ cls := "ChargePosts$State", name := "restart", desc := "(II)V" } : MethodName)) ∈ jW := List.mem_filter.mpr ⟨jw1 (List.mem_of_getElem? (i := 156) rfl), rfl⟩
theorem tw_157 : (Cond.code ({ cls := "ChargePosts$State", name := "restart", desc := "(II)V" } : MethodName) prog_6_method_8_code (3 : Nat) (Option.none : Option FieldType)) ∈ jW := List.mem_filter.mpr ⟨jw1 (List.mem_of_getElem? (i := 157) rfl), rfl⟩
theorem tw_158 : (Cond.methodLink "ChargePosts$State" (26 : Nat) ({ cls := "ChargePosts$Site", name := "hasCar", desc := "(I)Z" } : MethodName)) ∈ jW := List.mem_filter.mpr ⟨jw1 (List.mem_of_getElem? (i := 158) rfl), rfl⟩
theorem tw_159 : (Cond.instanceMethod ({ cls := "ChargePosts$Site", name := "hasCar", desc := "(I)Z" } : MethodName)) ∈ jW := List.mem_filter.mpr ⟨jw1 (List.mem_of_getElem? (i := 159) rfl), rfl⟩
theorem tw_160 : (Cond.selects "ChargePosts$Site" ({ cls := "ChargePosts$Site", name := "hasCar", desc := "(I)Z" } : MethodName) ({ cls := "ChargePosts$Site", name := "hasCar", desc := "(I)Z" } : MethodName)) ∈ jW := List.mem_filter.mpr ⟨jw1 (List.mem_of_getElem? (i := 160) rfl), rfl⟩
theorem tw_161 : (Cond.code ({ cls := "ChargePosts$Site", name := "hasCar", desc := "(I)Z" } : MethodName) prog_5_method_6_code (2 : Nat) (Option.some FieldType.boolean)) ∈ jW := List.mem_filter.mpr ⟨jw1 (List.mem_of_getElem? (i := 161) rfl), rfl⟩
theorem tw_162 : (Cond.methodLink "ChargePosts$State" (32 : Nat) ({ cls := "ChargePosts$Site", name := "trait", desc := "(II)I" } : MethodName)) ∈ jW := List.mem_filter.mpr ⟨jw1 (List.mem_of_getElem? (i := 162) rfl), rfl⟩
theorem tw_163 : (Cond.instanceMethod ({ cls := "ChargePosts$Site", name := "trait", desc := "(II)I" } : MethodName)) ∈ jW := List.mem_filter.mpr ⟨jw1 (List.mem_of_getElem? (i := 163) rfl), rfl⟩
theorem tw_164 : (Cond.selects "ChargePosts$Site" ({ cls := "ChargePosts$Site", name := "trait", desc := "(II)I" } : MethodName) ({ cls := "ChargePosts$Site", name := "trait", desc := "(II)I" } : MethodName)) ∈ jW := List.mem_filter.mpr ⟨jw1 (List.mem_of_getElem? (i := 164) rfl), rfl⟩
theorem tw_165 : (Cond.code ({ cls := "ChargePosts$Site", name := "trait", desc := "(II)I" } : MethodName) prog_5_method_9_code (3 : Nat) (Option.some FieldType.int)) ∈ jW := List.mem_filter.mpr ⟨jw1 (List.mem_of_getElem? (i := 165) rfl), rfl⟩
theorem tw_166 : (Cond.fieldLink "ChargePosts" (12 : Nat) "ChargePosts" "text" "LChargePosts$Text;") ∈ jW := List.mem_filter.mpr ⟨jw1 (List.mem_of_getElem? (i := 166) rfl), rfl⟩
theorem tw_167 : (Cond.fieldLink "ChargePosts" (19 : Nat) "ChargePosts" "site" "LChargePosts$Site;") ∈ jW := List.mem_filter.mpr ⟨jw1 (List.mem_of_getElem? (i := 167) rfl), rfl⟩
theorem tw_168 : (Cond.fieldLink "ChargePosts" (28 : Nat) "ChargePosts" "feed" "LChargePosts$Feed;") ∈ jW := List.mem_filter.mpr ⟨jw1 (List.mem_of_getElem? (i := 168) rfl), rfl⟩
theorem tw_169 : (Cond.fieldLink "ChargePosts" (35 : Nat) "ChargePosts" "now" "LChargePosts$State;") ∈ jW := List.mem_filter.mpr ⟨jw1 (List.mem_of_getElem? (i := 169) rfl), rfl⟩
theorem tw_170 : (Cond.fieldLink "ChargePosts" (39 : Nat) "ChargePosts" "trial" "LChargePosts$State;") ∈ jW := List.mem_filter.mpr ⟨jw1 (List.mem_of_getElem? (i := 170) rfl), rfl⟩
theorem tw_171 : (Cond.fieldLink "ChargePosts" (45 : Nat) "ChargePosts" "history" "LChargePosts$History;") ∈ jW := List.mem_filter.mpr ⟨jw1 (List.mem_of_getElem? (i := 171) rfl), rfl⟩
theorem tw_172 : (Cond.fieldLink "ChargePosts" (49 : Nat) "ChargePosts" "slots" "[LChargePosts$State;") ∈ jW := List.mem_filter.mpr ⟨jw1 (List.mem_of_getElem? (i := 172) rfl), rfl⟩
theorem tw_173 : (Cond.fieldLink "ChargePosts" (56 : Nat) "ChargePosts" "seen" "LChargePosts$Observations;") ∈ jW := List.mem_filter.mpr ⟨jw1 (List.mem_of_getElem? (i := 173) rfl), rfl⟩
theorem tw_174 : (Cond.fieldLink "ChargePosts" (60 : Nat) "ChargePosts" "digits" "[I") ∈ jW := List.mem_filter.mpr ⟨jw1 (List.mem_of_getElem? (i := 174) rfl), rfl⟩
theorem tw_175 : (Cond.fieldLink "ChargePosts" (86 : Nat) "ChargePosts" "savedSlots" "I") ∈ jW := List.mem_filter.mpr ⟨jw1 (List.mem_of_getElem? (i := 175) rfl), rfl⟩
theorem tw_176 : (Cond.fieldLink "ChargePosts" (237 : Nat) "ChargePosts" "start" "J") ∈ jW := List.mem_filter.mpr ⟨jw1 (List.mem_of_getElem? (i := 176) rfl), rfl⟩
theorem tw_177 : (Cond.laysFinal "ChargePosts" "ChargePosts" "text" "LChargePosts$Text;") ∈ jW := List.mem_filter.mpr ⟨jw1 (List.mem_of_getElem? (i := 177) rfl), rfl⟩
theorem tw_179 : (Cond.laysFinal "ChargePosts" "ChargePosts" "site" "LChargePosts$Site;") ∈ jW := List.mem_filter.mpr ⟨jw1 (List.mem_of_getElem? (i := 179) rfl), rfl⟩
theorem tw_181 : (Cond.laysFinal "ChargePosts" "ChargePosts" "feed" "LChargePosts$Feed;") ∈ jW := List.mem_filter.mpr ⟨jw1 (List.mem_of_getElem? (i := 181) rfl), rfl⟩
theorem tw_183 : (Cond.laysFinal "ChargePosts" "ChargePosts" "now" "LChargePosts$State;") ∈ jW := List.mem_filter.mpr ⟨jw1 (List.mem_of_getElem? (i := 183) rfl), rfl⟩
theorem tw_185 : (Cond.laysFinal "ChargePosts" "ChargePosts" "trial" "LChargePosts$State;") ∈ jW := List.mem_filter.mpr ⟨jw1 (List.mem_of_getElem? (i := 185) rfl), rfl⟩
theorem tw_187 : (Cond.laysFinal "ChargePosts" "ChargePosts" "history" "LChargePosts$History;") ∈ jW := List.mem_filter.mpr ⟨jw1 (List.mem_of_getElem? (i := 187) rfl), rfl⟩
theorem tw_189 : (Cond.laysFinal "ChargePosts" "ChargePosts" "slots" "[LChargePosts$State;") ∈ jW := List.mem_filter.mpr ⟨jw1 (List.mem_of_getElem? (i := 189) rfl), rfl⟩
theorem tw_191 : (Cond.laysFinal "ChargePosts" "ChargePosts" "seen" "LChargePosts$Observations;") ∈ jW := List.mem_filter.mpr ⟨jw1 (List.mem_of_getElem? (i := 191) rfl), rfl⟩
theorem tw_193 : (Cond.laysFinal "ChargePosts" "ChargePosts" "digits" "[I") ∈ jW := List.mem_filter.mpr ⟨jw1 (List.mem_of_getElem? (i := 193) rfl), rfl⟩
theorem tw_195 : (Cond.lays "ChargePosts" "ChargePosts" "savedSlots" "I") ∈ jW := List.mem_filter.mpr ⟨jw1 (List.mem_of_getElem? (i := 195) rfl), rfl⟩
theorem tw_197 : (Cond.lays "ChargePosts" "ChargePosts" "start" "J") ∈ jW := List.mem_filter.mpr ⟨jw1 (List.mem_of_getElem? (i := 197) rfl), rfl⟩
theorem tw_200 : (Cond.methodLink "ChargePostsLaw" (13 : Nat) ({ cls := "ChargePosts", name := "write", desc := "(I)I" } : MethodName)) ∈ jW := List.mem_filter.mpr ⟨jw1 (List.mem_of_getElem? (i := 200) rfl), rfl⟩
theorem tw_201 : (Cond.instanceMethod ({ cls := "ChargePosts", name := "write", desc := "(I)I" } : MethodName)) ∈ jW := List.mem_filter.mpr ⟨jw1 (List.mem_of_getElem? (i := 201) rfl), rfl⟩
theorem tw_202 : (Cond.selects "ChargePosts" ({ cls := "ChargePosts", name := "write", desc := "(I)I" } : MethodName) ({ cls := "ChargePosts", name := "write", desc := "(I)I" } : MethodName)) ∈ jW := List.mem_filter.mpr ⟨jw1 (List.mem_of_getElem? (i := 202) rfl), rfl⟩
theorem tw_203 : (Cond.code ({ cls := "ChargePosts", name := "write", desc := "(I)I" } : MethodName) prog_1_method_2_code (2 : Nat) (Option.some FieldType.int)) ∈ jW := List.mem_filter.mpr ⟨jw1 (List.mem_of_getElem? (i := 203) rfl), rfl⟩
theorem tw_204 : (Cond.methodLink "ChargePosts" (67 : Nat) ({ cls := "ChargePosts$Text", name := "append", desc := "(I)Z" } : MethodName)) ∈ jW := List.mem_filter.mpr ⟨jw1 (List.mem_of_getElem? (i := 204) rfl), rfl⟩
theorem tw_205 : (Cond.instanceMethod ({ cls := "ChargePosts$Text", name := "append", desc := "(I)Z" } : MethodName)) ∈ jW := List.mem_filter.mpr ⟨jw1 (List.mem_of_getElem? (i := 205) rfl), rfl⟩
theorem tw_206 : (Cond.selects "ChargePosts$Text" ({ cls := "ChargePosts$Text", name := "append", desc := "(I)Z" } : MethodName) ({ cls := "ChargePosts$Text", name := "append", desc := "(I)Z" } : MethodName)) ∈ jW := List.mem_filter.mpr ⟨jw1 (List.mem_of_getElem? (i := 206) rfl), rfl⟩
theorem tw_207 : (Cond.code ({ cls := "ChargePosts$Text", name := "append", desc := "(I)Z" } : MethodName) prog_7_method_2_code (2 : Nat) (Option.some FieldType.boolean)) ∈ jW := List.mem_filter.mpr ⟨jw1 (List.mem_of_getElem? (i := 207) rfl), rfl⟩
theorem tw_208 : (Cond.methodLink "ChargePostsLaw" (18 : Nat) ({ cls := "ChargePosts", name := "wipe", desc := "()I" } : MethodName)) ∈ jW := List.mem_filter.mpr ⟨jw1 (List.mem_of_getElem? (i := 208) rfl), rfl⟩
theorem tw_209 : (Cond.instanceMethod ({ cls := "ChargePosts", name := "wipe", desc := "()I" } : MethodName)) ∈ jW := List.mem_filter.mpr ⟨jw1 (List.mem_of_getElem? (i := 209) rfl), rfl⟩
theorem tw_210 : (Cond.selects "ChargePosts" ({ cls := "ChargePosts", name := "wipe", desc := "()I" } : MethodName) ({ cls := "ChargePosts", name := "wipe", desc := "()I" } : MethodName)) ∈ jW := List.mem_filter.mpr ⟨jw1 (List.mem_of_getElem? (i := 210) rfl), rfl⟩
theorem tw_211 : (Cond.code ({ cls := "ChargePosts", name := "wipe", desc := "()I" } : MethodName) prog_1_method_3_code (2 : Nat) (Option.some FieldType.int)) ∈ jW := List.mem_filter.mpr ⟨jw1 (List.mem_of_getElem? (i := 211) rfl), rfl⟩
theorem tw_212 : (Cond.methodLink "ChargePostsLaw" (23 : Nat) ({ cls := "ChargePosts", name := "fault", desc := "()I" } : MethodName)) ∈ jW := List.mem_filter.mpr ⟨jw1 (List.mem_of_getElem? (i := 212) rfl), rfl⟩
theorem tw_213 : (Cond.instanceMethod ({ cls := "ChargePosts", name := "fault", desc := "()I" } : MethodName)) ∈ jW := List.mem_filter.mpr ⟨jw1 (List.mem_of_getElem? (i := 213) rfl), rfl⟩
theorem tw_214 : (Cond.selects "ChargePosts" ({ cls := "ChargePosts", name := "fault", desc := "()I" } : MethodName) ({ cls := "ChargePosts", name := "fault", desc := "()I" } : MethodName)) ∈ jW := List.mem_filter.mpr ⟨jw1 (List.mem_of_getElem? (i := 214) rfl), rfl⟩
theorem tw_215 : (Cond.code ({ cls := "ChargePosts", name := "fault", desc := "()I" } : MethodName) prog_1_method_4_code (1 : Nat) (Option.some FieldType.int)) ∈ jW := List.mem_filter.mpr ⟨jw1 (List.mem_of_getElem? (i := 215) rfl), rfl⟩
theorem tw_216 : (Cond.methodLink "ChargePosts" (75 : Nat) ({ cls := "ChargePosts$Text", name := "firstFault", desc := "()I" } : MethodName)) ∈ jW := List.mem_filter.mpr ⟨jw1 (List.mem_of_getElem? (i := 216) rfl), rfl⟩
theorem tw_217 : (Cond.instanceMethod ({ cls := "ChargePosts$Text", name := "firstFault", desc := "()I" } : MethodName)) ∈ jW := List.mem_filter.mpr ⟨jw1 (List.mem_of_getElem? (i := 217) rfl), rfl⟩
theorem tw_218 : (Cond.selects "ChargePosts$Text" ({ cls := "ChargePosts$Text", name := "firstFault", desc := "()I" } : MethodName) ({ cls := "ChargePosts$Text", name := "firstFault", desc := "()I" } : MethodName)) ∈ jW := List.mem_filter.mpr ⟨jw1 (List.mem_of_getElem? (i := 218) rfl), rfl⟩
theorem tw_219 : (Cond.code ({ cls := "ChargePosts$Text", name := "firstFault", desc := "()I" } : MethodName) prog_7_method_6_code (6 : Nat) (Option.some FieldType.int)) ∈ jW := List.mem_filter.mpr ⟨jw1 (List.mem_of_getElem? (i := 219) rfl), rfl⟩
theorem tw_220 : (Cond.methodLink "ChargePosts$Text" (26 : Nat) ({ cls := "ChargePosts$Text", name := "faultOfHead", desc := "()I" } : MethodName)) ∈ jW := List.mem_filter.mpr ⟨jw1 (List.mem_of_getElem? (i := 220) rfl), rfl⟩
theorem tw_222 : (Cond.instanceMethod ({ cls := "ChargePosts$Text", name := "faultOfHead", desc := "()I" } : MethodName)) ∈ jW := List.mem_filter.mpr ⟨jw1 (List.mem_of_getElem? (i := 222) rfl), rfl⟩
theorem tw_223 : (Cond.code ({ cls := "ChargePosts$Text", name := "faultOfHead", desc := "()I" } : MethodName) prog_7_method_7_code (1 : Nat) (Option.some FieldType.int)) ∈ jW := List.mem_filter.mpr ⟨jw1 (List.mem_of_getElem? (i := 223) rfl), rfl⟩
theorem tw_224 : (Cond.methodLink "ChargePosts$Text" (19 : Nat) ({ cls := "ChargePosts$Text", name := "byteAt", desc := "(I)I" } : MethodName)) ∈ jW := List.mem_filter.mpr ⟨jw1 (List.mem_of_getElem? (i := 224) rfl), rfl⟩
theorem tw_225 : (Cond.instanceMethod ({ cls := "ChargePosts$Text", name := "byteAt", desc := "(I)I" } : MethodName)) ∈ jW := List.mem_filter.mpr ⟨jw1 (List.mem_of_getElem? (i := 225) rfl), rfl⟩
theorem tw_226 : (Cond.selects "ChargePosts$Text" ({ cls := "ChargePosts$Text", name := "byteAt", desc := "(I)I" } : MethodName) ({ cls := "ChargePosts$Text", name := "byteAt", desc := "(I)I" } : MethodName)) ∈ jW := List.mem_filter.mpr ⟨jw1 (List.mem_of_getElem? (i := 226) rfl), rfl⟩
theorem tw_227 : (Cond.code ({ cls := "ChargePosts$Text", name := "byteAt", desc := "(I)I" } : MethodName) prog_7_method_3_code (2 : Nat) (Option.some FieldType.int)) ∈ jW := List.mem_filter.mpr ⟨jw1 (List.mem_of_getElem? (i := 227) rfl), rfl⟩
theorem tw_228 : (Cond.methodLink "ChargePosts$Text" (30 : Nat) ({ cls := "ChargePosts$Text", name := "isDigit", desc := "(III)Z" } : MethodName)) ∈ jW := List.mem_filter.mpr ⟨jw1 (List.mem_of_getElem? (i := 228) rfl), rfl⟩
theorem tw_230 : (Cond.instanceMethod ({ cls := "ChargePosts$Text", name := "isDigit", desc := "(III)Z" } : MethodName)) ∈ jW := List.mem_filter.mpr ⟨jw1 (List.mem_of_getElem? (i := 230) rfl), rfl⟩
theorem tw_231 : (Cond.code ({ cls := "ChargePosts$Text", name := "isDigit", desc := "(III)Z" } : MethodName) prog_7_method_5_code (5 : Nat) (Option.some FieldType.boolean)) ∈ jW := List.mem_filter.mpr ⟨jw1 (List.mem_of_getElem? (i := 231) rfl), rfl⟩
theorem tw_232 : (Cond.methodLink "ChargePosts$Text" (23 : Nat) ({ cls := "ChargePosts$Text", name := "digitAt", desc := "(I)I" } : MethodName)) ∈ jW := List.mem_filter.mpr ⟨jw1 (List.mem_of_getElem? (i := 232) rfl), rfl⟩
theorem tw_233 : (Cond.instanceMethod ({ cls := "ChargePosts$Text", name := "digitAt", desc := "(I)I" } : MethodName)) ∈ jW := List.mem_filter.mpr ⟨jw1 (List.mem_of_getElem? (i := 233) rfl), rfl⟩
theorem tw_234 : (Cond.selects "ChargePosts$Text" ({ cls := "ChargePosts$Text", name := "digitAt", desc := "(I)I" } : MethodName) ({ cls := "ChargePosts$Text", name := "digitAt", desc := "(I)I" } : MethodName)) ∈ jW := List.mem_filter.mpr ⟨jw1 (List.mem_of_getElem? (i := 234) rfl), rfl⟩
theorem tw_235 : (Cond.code ({ cls := "ChargePosts$Text", name := "digitAt", desc := "(I)I" } : MethodName) prog_7_method_4_code (2 : Nat) (Option.some FieldType.int)) ∈ jW := List.mem_filter.mpr ⟨jw1 (List.mem_of_getElem? (i := 235) rfl), rfl⟩
theorem tw_236 : (Cond.methodLink "ChargePosts$Text" (34 : Nat) ({ cls := "ChargePosts$Text", name := "faultOfCar", desc := "(I)I" } : MethodName)) ∈ jW := List.mem_filter.mpr ⟨jw1 (List.mem_of_getElem? (i := 236) rfl), rfl⟩
theorem tw_238 : (Cond.instanceMethod ({ cls := "ChargePosts$Text", name := "faultOfCar", desc := "(I)I" } : MethodName)) ∈ jW := List.mem_filter.mpr ⟨jw1 (List.mem_of_getElem? (i := 238) rfl), rfl⟩
theorem tw_239 : (Cond.code ({ cls := "ChargePosts$Text", name := "faultOfCar", desc := "(I)I" } : MethodName) prog_7_method_8_code (2 : Nat) (Option.some FieldType.int)) ∈ jW := List.mem_filter.mpr ⟨jw1 (List.mem_of_getElem? (i := 239) rfl), rfl⟩
theorem tw_240 : (Cond.methodLink "ChargePostsLaw" (27 : Nat) ({ cls := "ChargePosts", name := "site", desc := "()I" } : MethodName)) ∈ jW := List.mem_filter.mpr ⟨jw2 (List.mem_of_getElem? (i := 0) rfl), rfl⟩
theorem tw_241 : (Cond.instanceMethod ({ cls := "ChargePosts", name := "site", desc := "()I" } : MethodName)) ∈ jW := List.mem_filter.mpr ⟨jw2 (List.mem_of_getElem? (i := 1) rfl), rfl⟩
theorem tw_242 : (Cond.selects "ChargePosts" ({ cls := "ChargePosts", name := "site", desc := "()I" } : MethodName) ({ cls := "ChargePosts", name := "site", desc := "()I" } : MethodName)) ∈ jW := List.mem_filter.mpr ⟨jw2 (List.mem_of_getElem? (i := 2) rfl), rfl⟩
theorem tw_243 : (Cond.code ({ cls := "ChargePosts", name := "site", desc := "()I" } : MethodName) prog_1_method_5_code (1 : Nat) (Option.some FieldType.int)) ∈ jW := List.mem_filter.mpr ⟨jw2 (List.mem_of_getElem? (i := 3) rfl), rfl⟩
theorem tw_244 : (Cond.methodLink "ChargePosts" (79 : Nat) ({ cls := "ChargePosts$Site", name := "build", desc := "(LChargePosts$Text;)V" } : MethodName)) ∈ jW := List.mem_filter.mpr ⟨jw2 (List.mem_of_getElem? (i := 4) rfl), rfl⟩
theorem tw_245 : (Cond.instanceMethod ({ cls := "ChargePosts$Site", name := "build", desc := "(LChargePosts$Text;)V" } : MethodName)) ∈ jW := List.mem_filter.mpr ⟨jw2 (List.mem_of_getElem? (i := 5) rfl), rfl⟩
theorem tw_246 : (Cond.selects "ChargePosts$Site" ({ cls := "ChargePosts$Site", name := "build", desc := "(LChargePosts$Text;)V" } : MethodName) ({ cls := "ChargePosts$Site", name := "build", desc := "(LChargePosts$Text;)V" } : MethodName)) ∈ jW := List.mem_filter.mpr ⟨jw2 (List.mem_of_getElem? (i := 6) rfl), rfl⟩
theorem tw_247 : (Cond.code ({ cls := "ChargePosts$Site", name := "build", desc := "(LChargePosts$Text;)V" } : MethodName) prog_5_method_2_code (4 : Nat) (Option.none : Option FieldType)) ∈ jW := List.mem_filter.mpr ⟨jw2 (List.mem_of_getElem? (i := 7) rfl), rfl⟩
theorem tw_248 : (Cond.methodLink "ChargePosts$Site" (28 : Nat) ({ cls := "ChargePosts$Text", name := "digitAt", desc := "(I)I" } : MethodName)) ∈ jW := List.mem_filter.mpr ⟨jw2 (List.mem_of_getElem? (i := 8) rfl), rfl⟩
theorem tw_249 : (Cond.methodLink "ChargePosts$Site" (40 : Nat) ({ cls := "ChargePosts$Text", name := "byteAt", desc := "(I)I" } : MethodName)) ∈ jW := List.mem_filter.mpr ⟨jw2 (List.mem_of_getElem? (i := 9) rfl), rfl⟩
theorem tw_250 : (Cond.methodLink "ChargePosts$Site" (43 : Nat) ({ cls := "ChargePosts$Site", name := "addPost", desc := "(I)V" } : MethodName)) ∈ jW := List.mem_filter.mpr ⟨jw2 (List.mem_of_getElem? (i := 10) rfl), rfl⟩
theorem tw_252 : (Cond.instanceMethod ({ cls := "ChargePosts$Site", name := "addPost", desc := "(I)V" } : MethodName)) ∈ jW := List.mem_filter.mpr ⟨jw2 (List.mem_of_getElem? (i := 12) rfl), rfl⟩
theorem tw_253 : (Cond.code ({ cls := "ChargePosts$Site", name := "addPost", desc := "(I)V" } : MethodName) prog_5_method_3_code (2 : Nat) (Option.none : Option FieldType)) ∈ jW := List.mem_filter.mpr ⟨jw2 (List.mem_of_getElem? (i := 13) rfl), rfl⟩
theorem tw_254 : (Cond.methodLink "ChargePosts$Site" (47 : Nat) ({ cls := "ChargePosts$Site", name := "addCar", desc := "(LChargePosts$Text;I)V" } : MethodName)) ∈ jW := List.mem_filter.mpr ⟨jw2 (List.mem_of_getElem? (i := 14) rfl), rfl⟩
theorem tw_256 : (Cond.instanceMethod ({ cls := "ChargePosts$Site", name := "addCar", desc := "(LChargePosts$Text;I)V" } : MethodName)) ∈ jW := List.mem_filter.mpr ⟨jw2 (List.mem_of_getElem? (i := 16) rfl), rfl⟩
theorem tw_257 : (Cond.code ({ cls := "ChargePosts$Site", name := "addCar", desc := "(LChargePosts$Text;I)V" } : MethodName) prog_5_method_4_code (4 : Nat) (Option.none : Option FieldType)) ∈ jW := List.mem_filter.mpr ⟨jw2 (List.mem_of_getElem? (i := 17) rfl), rfl⟩
theorem tw_258 : (Cond.methodLink "ChargePostsLaw" (31 : Nat) ({ cls := "ChargePosts", name := "about", desc := "(I)I" } : MethodName)) ∈ jW := List.mem_filter.mpr ⟨jw2 (List.mem_of_getElem? (i := 18) rfl), rfl⟩
theorem tw_259 : (Cond.instanceMethod ({ cls := "ChargePosts", name := "about", desc := "(I)I" } : MethodName)) ∈ jW := List.mem_filter.mpr ⟨jw2 (List.mem_of_getElem? (i := 19) rfl), rfl⟩
theorem tw_260 : (Cond.selects "ChargePosts" ({ cls := "ChargePosts", name := "about", desc := "(I)I" } : MethodName) ({ cls := "ChargePosts", name := "about", desc := "(I)I" } : MethodName)) ∈ jW := List.mem_filter.mpr ⟨jw2 (List.mem_of_getElem? (i := 20) rfl), rfl⟩
theorem tw_261 : (Cond.code ({ cls := "ChargePosts", name := "about", desc := "(I)I" } : MethodName) prog_1_method_6_code (2 : Nat) (Option.some FieldType.int)) ∈ jW := List.mem_filter.mpr ⟨jw2 (List.mem_of_getElem? (i := 21) rfl), rfl⟩
theorem tw_262 : (Cond.methodLink "ChargePosts" (104 : Nat) ({ cls := "ChargePosts$State", name := "postsIn", desc := "(I)I" } : MethodName)) ∈ jW := List.mem_filter.mpr ⟨jw2 (List.mem_of_getElem? (i := 22) rfl), rfl⟩
theorem tw_263 : (Cond.instanceMethod ({ cls := "ChargePosts$State", name := "postsIn", desc := "(I)I" } : MethodName)) ∈ jW := List.mem_filter.mpr ⟨jw2 (List.mem_of_getElem? (i := 23) rfl), rfl⟩
theorem tw_264 : (Cond.selects "ChargePosts$State" ({ cls := "ChargePosts$State", name := "postsIn", desc := "(I)I" } : MethodName) ({ cls := "ChargePosts$State", name := "postsIn", desc := "(I)I" } : MethodName)) ∈ jW := List.mem_filter.mpr ⟨jw2 (List.mem_of_getElem? (i := 24) rfl), rfl⟩
theorem tw_265 : (Cond.code ({ cls := "ChargePosts$State", name := "postsIn", desc := "(I)I" } : MethodName) prog_6_method_13_code (4 : Nat) (Option.some FieldType.int)) ∈ jW := List.mem_filter.mpr ⟨jw2 (List.mem_of_getElem? (i := 25) rfl), rfl⟩
theorem tw_266 : (Cond.methodLink "ChargePosts$State" (52 : Nat) ({ cls := "ChargePosts$State", name := "get", desc := "(II)I" } : MethodName)) ∈ jW := List.mem_filter.mpr ⟨jw2 (List.mem_of_getElem? (i := 26) rfl), rfl⟩
theorem tw_267 : (Cond.instanceMethod ({ cls := "ChargePosts$State", name := "get", desc := "(II)I" } : MethodName)) ∈ jW := List.mem_filter.mpr ⟨jw2 (List.mem_of_getElem? (i := 27) rfl), rfl⟩
theorem tw_268 : (Cond.selects "ChargePosts$State" ({ cls := "ChargePosts$State", name := "get", desc := "(II)I" } : MethodName) ({ cls := "ChargePosts$State", name := "get", desc := "(II)I" } : MethodName)) ∈ jW := List.mem_filter.mpr ⟨jw2 (List.mem_of_getElem? (i := 28) rfl), rfl⟩
theorem tw_269 : (Cond.code ({ cls := "ChargePosts$State", name := "get", desc := "(II)I" } : MethodName) prog_6_method_4_code (3 : Nat) (Option.some FieldType.int)) ∈ jW := List.mem_filter.mpr ⟨jw2 (List.mem_of_getElem? (i := 29) rfl), rfl⟩
theorem tw_270 : (Cond.methodLink "ChargePosts" (108 : Nat) ({ cls := "ChargePosts$State", name := "meters", desc := "()I" } : MethodName)) ∈ jW := List.mem_filter.mpr ⟨jw2 (List.mem_of_getElem? (i := 30) rfl), rfl⟩
theorem tw_271 : (Cond.instanceMethod ({ cls := "ChargePosts$State", name := "meters", desc := "()I" } : MethodName)) ∈ jW := List.mem_filter.mpr ⟨jw2 (List.mem_of_getElem? (i := 31) rfl), rfl⟩
theorem tw_272 : (Cond.selects "ChargePosts$State" ({ cls := "ChargePosts$State", name := "meters", desc := "()I" } : MethodName) ({ cls := "ChargePosts$State", name := "meters", desc := "()I" } : MethodName)) ∈ jW := List.mem_filter.mpr ⟨jw2 (List.mem_of_getElem? (i := 32) rfl), rfl⟩
theorem tw_273 : (Cond.code ({ cls := "ChargePosts$State", name := "meters", desc := "()I" } : MethodName) prog_6_method_14_code (3 : Nat) (Option.some FieldType.int)) ∈ jW := List.mem_filter.mpr ⟨jw2 (List.mem_of_getElem? (i := 33) rfl), rfl⟩
theorem tw_274 : (Cond.methodLink "ChargePosts" (111 : Nat) ({ cls := "ChargePosts$State", name := "rests", desc := "()I" } : MethodName)) ∈ jW := List.mem_filter.mpr ⟨jw2 (List.mem_of_getElem? (i := 34) rfl), rfl⟩
theorem tw_275 : (Cond.instanceMethod ({ cls := "ChargePosts$State", name := "rests", desc := "()I" } : MethodName)) ∈ jW := List.mem_filter.mpr ⟨jw2 (List.mem_of_getElem? (i := 35) rfl), rfl⟩
theorem tw_276 : (Cond.selects "ChargePosts$State" ({ cls := "ChargePosts$State", name := "rests", desc := "()I" } : MethodName) ({ cls := "ChargePosts$State", name := "rests", desc := "()I" } : MethodName)) ∈ jW := List.mem_filter.mpr ⟨jw2 (List.mem_of_getElem? (i := 36) rfl), rfl⟩
theorem tw_277 : (Cond.code ({ cls := "ChargePosts$State", name := "rests", desc := "()I" } : MethodName) prog_6_method_15_code (3 : Nat) (Option.some FieldType.int)) ∈ jW := List.mem_filter.mpr ⟨jw2 (List.mem_of_getElem? (i := 37) rfl), rfl⟩
theorem tw_278 : (Cond.methodLink "ChargePosts$State" (55 : Nat) ({ cls := "ChargePosts$State", name := "restOf", desc := "(I)I" } : MethodName)) ∈ jW := List.mem_filter.mpr ⟨jw2 (List.mem_of_getElem? (i := 38) rfl), rfl⟩
theorem tw_279 : (Cond.instanceMethod ({ cls := "ChargePosts$State", name := "restOf", desc := "(I)I" } : MethodName)) ∈ jW := List.mem_filter.mpr ⟨jw2 (List.mem_of_getElem? (i := 39) rfl), rfl⟩
theorem tw_280 : (Cond.selects "ChargePosts$State" ({ cls := "ChargePosts$State", name := "restOf", desc := "(I)I" } : MethodName) ({ cls := "ChargePosts$State", name := "restOf", desc := "(I)I" } : MethodName)) ∈ jW := List.mem_filter.mpr ⟨jw2 (List.mem_of_getElem? (i := 40) rfl), rfl⟩
theorem tw_281 : (Cond.code ({ cls := "ChargePosts$State", name := "restOf", desc := "(I)I" } : MethodName) prog_6_method_6_code (2 : Nat) (Option.some FieldType.int)) ∈ jW := List.mem_filter.mpr ⟨jw2 (List.mem_of_getElem? (i := 41) rfl), rfl⟩
theorem tw_282 : (Cond.methodLink "ChargePostsLaw" (35 : Nat) ({ cls := "ChargePosts", name := "post", desc := "(II)I" } : MethodName)) ∈ jW := List.mem_filter.mpr ⟨jw2 (List.mem_of_getElem? (i := 42) rfl), rfl⟩
theorem tw_283 : (Cond.instanceMethod ({ cls := "ChargePosts", name := "post", desc := "(II)I" } : MethodName)) ∈ jW := List.mem_filter.mpr ⟨jw2 (List.mem_of_getElem? (i := 43) rfl), rfl⟩
theorem tw_284 : (Cond.selects "ChargePosts" ({ cls := "ChargePosts", name := "post", desc := "(II)I" } : MethodName) ({ cls := "ChargePosts", name := "post", desc := "(II)I" } : MethodName)) ∈ jW := List.mem_filter.mpr ⟨jw2 (List.mem_of_getElem? (i := 44) rfl), rfl⟩
theorem tw_285 : (Cond.code ({ cls := "ChargePosts", name := "post", desc := "(II)I" } : MethodName) prog_1_method_7_code (3 : Nat) (Option.some FieldType.int)) ∈ jW := List.mem_filter.mpr ⟨jw2 (List.mem_of_getElem? (i := 45) rfl), rfl⟩
theorem tw_286 : (Cond.methodLink "ChargePosts" (115 : Nat) ({ cls := "ChargePosts$Site", name := "hasPost", desc := "(I)Z" } : MethodName)) ∈ jW := List.mem_filter.mpr ⟨jw2 (List.mem_of_getElem? (i := 46) rfl), rfl⟩
theorem tw_287 : (Cond.instanceMethod ({ cls := "ChargePosts$Site", name := "hasPost", desc := "(I)Z" } : MethodName)) ∈ jW := List.mem_filter.mpr ⟨jw2 (List.mem_of_getElem? (i := 47) rfl), rfl⟩
theorem tw_288 : (Cond.selects "ChargePosts$Site" ({ cls := "ChargePosts$Site", name := "hasPost", desc := "(I)Z" } : MethodName) ({ cls := "ChargePosts$Site", name := "hasPost", desc := "(I)Z" } : MethodName)) ∈ jW := List.mem_filter.mpr ⟨jw2 (List.mem_of_getElem? (i := 48) rfl), rfl⟩
theorem tw_289 : (Cond.code ({ cls := "ChargePosts$Site", name := "hasPost", desc := "(I)Z" } : MethodName) prog_5_method_5_code (2 : Nat) (Option.some FieldType.boolean)) ∈ jW := List.mem_filter.mpr ⟨jw2 (List.mem_of_getElem? (i := 49) rfl), rfl⟩
theorem tw_290 : (Cond.methodLink "ChargePosts" (118 : Nat) ({ cls := "ChargePosts$Site", name := "ampsOf", desc := "(I)I" } : MethodName)) ∈ jW := List.mem_filter.mpr ⟨jw2 (List.mem_of_getElem? (i := 50) rfl), rfl⟩
theorem tw_291 : (Cond.instanceMethod ({ cls := "ChargePosts$Site", name := "ampsOf", desc := "(I)I" } : MethodName)) ∈ jW := List.mem_filter.mpr ⟨jw2 (List.mem_of_getElem? (i := 51) rfl), rfl⟩
theorem tw_292 : (Cond.selects "ChargePosts$Site" ({ cls := "ChargePosts$Site", name := "ampsOf", desc := "(I)I" } : MethodName) ({ cls := "ChargePosts$Site", name := "ampsOf", desc := "(I)I" } : MethodName)) ∈ jW := List.mem_filter.mpr ⟨jw2 (List.mem_of_getElem? (i := 52) rfl), rfl⟩
theorem tw_293 : (Cond.code ({ cls := "ChargePosts$Site", name := "ampsOf", desc := "(I)I" } : MethodName) prog_5_method_7_code (2 : Nat) (Option.some FieldType.int)) ∈ jW := List.mem_filter.mpr ⟨jw2 (List.mem_of_getElem? (i := 53) rfl), rfl⟩
theorem tw_294 : (Cond.methodLink "ChargePosts" (121 : Nat) ({ cls := "ChargePosts$Feed", name := "property", desc := "(LChargePosts$State;II)I" } : MethodName)) ∈ jW := List.mem_filter.mpr ⟨jw2 (List.mem_of_getElem? (i := 54) rfl), rfl⟩
theorem tw_295 : (Cond.instanceMethod ({ cls := "ChargePosts$Feed", name := "property", desc := "(LChargePosts$State;II)I" } : MethodName)) ∈ jW := List.mem_filter.mpr ⟨jw2 (List.mem_of_getElem? (i := 55) rfl), rfl⟩
theorem tw_296 : (Cond.selects "ChargePosts$Feed" ({ cls := "ChargePosts$Feed", name := "property", desc := "(LChargePosts$State;II)I" } : MethodName) ({ cls := "ChargePosts$Feed", name := "property", desc := "(LChargePosts$State;II)I" } : MethodName)) ∈ jW := List.mem_filter.mpr ⟨jw2 (List.mem_of_getElem? (i := 56) rfl), rfl⟩
theorem tw_297 : (Cond.code ({ cls := "ChargePosts$Feed", name := "property", desc := "(LChargePosts$State;II)I" } : MethodName) prog_2_method_2_code (4 : Nat) (Option.some FieldType.int)) ∈ jW := List.mem_filter.mpr ⟨jw2 (List.mem_of_getElem? (i := 57) rfl), rfl⟩
theorem tw_298 : (Cond.methodLink "ChargePosts$Feed" (22 : Nat) ({ cls := "ChargePosts$Feed", name := "indexOf", desc := "(LChargePosts$State;I)I" } : MethodName)) ∈ jW := List.mem_filter.mpr ⟨jw2 (List.mem_of_getElem? (i := 58) rfl), rfl⟩
theorem tw_300 : (Cond.instanceMethod ({ cls := "ChargePosts$Feed", name := "indexOf", desc := "(LChargePosts$State;I)I" } : MethodName)) ∈ jW := List.mem_filter.mpr ⟨jw2 (List.mem_of_getElem? (i := 60) rfl), rfl⟩
theorem tw_301 : (Cond.code ({ cls := "ChargePosts$Feed", name := "indexOf", desc := "(LChargePosts$State;I)I" } : MethodName) prog_2_method_3_code (5 : Nat) (Option.some FieldType.int)) ∈ jW := List.mem_filter.mpr ⟨jw2 (List.mem_of_getElem? (i := 61) rfl), rfl⟩
theorem tw_302 : (Cond.methodLink "ChargePosts$Feed" (32 : Nat) ({ cls := "ChargePosts$Feed", name := "arrange", desc := "(LChargePosts$State;I)I" } : MethodName)) ∈ jW := List.mem_filter.mpr ⟨jw2 (List.mem_of_getElem? (i := 62) rfl), rfl⟩
theorem tw_304 : (Cond.instanceMethod ({ cls := "ChargePosts$Feed", name := "arrange", desc := "(LChargePosts$State;I)I" } : MethodName)) ∈ jW := List.mem_filter.mpr ⟨jw2 (List.mem_of_getElem? (i := 64) rfl), rfl⟩
theorem tw_305 : (Cond.code ({ cls := "ChargePosts$Feed", name := "arrange", desc := "(LChargePosts$State;I)I" } : MethodName) prog_2_method_16_code (6 : Nat) (Option.some FieldType.int)) ∈ jW := List.mem_filter.mpr ⟨jw2 (List.mem_of_getElem? (i := 65) rfl), rfl⟩
theorem tw_306 : (Cond.methodLink "ChargePosts$Feed" (26 : Nat) ({ cls := "ChargePosts$State", name := "get", desc := "(II)I" } : MethodName)) ∈ jW := List.mem_filter.mpr ⟨jw2 (List.mem_of_getElem? (i := 66) rfl), rfl⟩
theorem tw_308 : (Cond.static ({ cls := "ChargePosts", name := "has", desc := "(II)Z" } : MethodName)) ∈ jW := List.mem_filter.mpr ⟨jw2 (List.mem_of_getElem? (i := 68) rfl), rfl⟩
theorem tw_309 : (Cond.code ({ cls := "ChargePosts", name := "has", desc := "(II)Z" } : MethodName) prog_1_method_38_code (2 : Nat) (Option.some FieldType.boolean)) ∈ jW := List.mem_filter.mpr ⟨jw2 (List.mem_of_getElem? (i := 69) rfl), rfl⟩
theorem tw_310 : (Cond.methodLink "ChargePosts$Feed" (125 : Nat) ({ cls := "ChargePosts$Feed", name := "overtakes", desc := "(LChargePosts$State;II)Z" } : MethodName)) ∈ jW := List.mem_filter.mpr ⟨jw2 (List.mem_of_getElem? (i := 70) rfl), rfl⟩
theorem tw_312 : (Cond.instanceMethod ({ cls := "ChargePosts$Feed", name := "overtakes", desc := "(LChargePosts$State;II)Z" } : MethodName)) ∈ jW := List.mem_filter.mpr ⟨jw2 (List.mem_of_getElem? (i := 72) rfl), rfl⟩
theorem tw_313 : (Cond.code ({ cls := "ChargePosts$Feed", name := "overtakes", desc := "(LChargePosts$State;II)Z" } : MethodName) prog_2_method_17_code (7 : Nat) (Option.some FieldType.boolean)) ∈ jW := List.mem_filter.mpr ⟨jw2 (List.mem_of_getElem? (i := 73) rfl), rfl⟩
theorem tw_314 : (Cond.methodLink "ChargePosts$Feed" (106 : Nat) ({ cls := "ChargePosts$Site", name := "trait", desc := "(II)I" } : MethodName)) ∈ jW := List.mem_filter.mpr ⟨jw2 (List.mem_of_getElem? (i := 74) rfl), rfl⟩
theorem tw_315 : (Cond.methodLink "ChargePosts$Feed" (119 : Nat) ({ cls := "ChargePosts$State", name := "restOf", desc := "(I)I" } : MethodName)) ∈ jW := List.mem_filter.mpr ⟨jw2 (List.mem_of_getElem? (i := 75) rfl), rfl⟩
theorem tw_316 : (Cond.methodLink "ChargePostsLaw" (40 : Nat) ({ cls := "ChargePosts", name := "car", desc := "(II)I" } : MethodName)) ∈ jW := List.mem_filter.mpr ⟨jw2 (List.mem_of_getElem? (i := 76) rfl), rfl⟩
theorem tw_317 : (Cond.instanceMethod ({ cls := "ChargePosts", name := "car", desc := "(II)I" } : MethodName)) ∈ jW := List.mem_filter.mpr ⟨jw2 (List.mem_of_getElem? (i := 77) rfl), rfl⟩
theorem tw_318 : (Cond.selects "ChargePosts" ({ cls := "ChargePosts", name := "car", desc := "(II)I" } : MethodName) ({ cls := "ChargePosts", name := "car", desc := "(II)I" } : MethodName)) ∈ jW := List.mem_filter.mpr ⟨jw2 (List.mem_of_getElem? (i := 78) rfl), rfl⟩
theorem tw_319 : (Cond.code ({ cls := "ChargePosts", name := "car", desc := "(II)I" } : MethodName) prog_1_method_8_code (3 : Nat) (Option.some FieldType.int)) ∈ jW := List.mem_filter.mpr ⟨jw2 (List.mem_of_getElem? (i := 79) rfl), rfl⟩
theorem tw_320 : (Cond.methodLink "ChargePosts" (125 : Nat) ({ cls := "ChargePosts$Site", name := "hasCar", desc := "(I)Z" } : MethodName)) ∈ jW := List.mem_filter.mpr ⟨jw2 (List.mem_of_getElem? (i := 80) rfl), rfl⟩
theorem tw_321 : (Cond.methodLink "ChargePosts" (128 : Nat) ({ cls := "ChargePosts$State", name := "restOf", desc := "(I)I" } : MethodName)) ∈ jW := List.mem_filter.mpr ⟨jw2 (List.mem_of_getElem? (i := 81) rfl), rfl⟩
theorem tw_322 : (Cond.methodLink "ChargePosts" (131 : Nat) ({ cls := "ChargePosts$State", name := "postOf", desc := "(I)I" } : MethodName)) ∈ jW := List.mem_filter.mpr ⟨jw2 (List.mem_of_getElem? (i := 82) rfl), rfl⟩
theorem tw_323 : (Cond.instanceMethod ({ cls := "ChargePosts$State", name := "postOf", desc := "(I)I" } : MethodName)) ∈ jW := List.mem_filter.mpr ⟨jw2 (List.mem_of_getElem? (i := 83) rfl), rfl⟩
theorem tw_324 : (Cond.selects "ChargePosts$State" ({ cls := "ChargePosts$State", name := "postOf", desc := "(I)I" } : MethodName) ({ cls := "ChargePosts$State", name := "postOf", desc := "(I)I" } : MethodName)) ∈ jW := List.mem_filter.mpr ⟨jw2 (List.mem_of_getElem? (i := 84) rfl), rfl⟩
theorem tw_325 : (Cond.code ({ cls := "ChargePosts$State", name := "postOf", desc := "(I)I" } : MethodName) prog_6_method_10_code (3 : Nat) (Option.some FieldType.int)) ∈ jW := List.mem_filter.mpr ⟨jw2 (List.mem_of_getElem? (i := 85) rfl), rfl⟩
theorem tw_326 : (Cond.methodLink "ChargePosts" (134 : Nat) ({ cls := "ChargePosts$Site", name := "trait", desc := "(II)I" } : MethodName)) ∈ jW := List.mem_filter.mpr ⟨jw2 (List.mem_of_getElem? (i := 86) rfl), rfl⟩
theorem tw_327 : (Cond.methodLink "ChargePostsLaw" (44 : Nat) ({ cls := "ChargePosts", name := "minute", desc := "(I)I" } : MethodName)) ∈ jW := List.mem_filter.mpr ⟨jw2 (List.mem_of_getElem? (i := 87) rfl), rfl⟩
theorem tw_328 : (Cond.instanceMethod ({ cls := "ChargePosts", name := "minute", desc := "(I)I" } : MethodName)) ∈ jW := List.mem_filter.mpr ⟨jw2 (List.mem_of_getElem? (i := 88) rfl), rfl⟩
theorem tw_329 : (Cond.selects "ChargePosts" ({ cls := "ChargePosts", name := "minute", desc := "(I)I" } : MethodName) ({ cls := "ChargePosts", name := "minute", desc := "(I)I" } : MethodName)) ∈ jW := List.mem_filter.mpr ⟨jw2 (List.mem_of_getElem? (i := 89) rfl), rfl⟩
theorem tw_330 : (Cond.code ({ cls := "ChargePosts", name := "minute", desc := "(I)I" } : MethodName) prog_1_method_9_code (2 : Nat) (Option.some FieldType.int)) ∈ jW := List.mem_filter.mpr ⟨jw2 (List.mem_of_getElem? (i := 90) rfl), rfl⟩
theorem tw_331 : (Cond.methodLink "ChargePosts" (138 : Nat) ({ cls := "ChargePosts$State", name := "take", desc := "(LChargePosts$State;)V" } : MethodName)) ∈ jW := List.mem_filter.mpr ⟨jw2 (List.mem_of_getElem? (i := 91) rfl), rfl⟩
theorem tw_332 : (Cond.instanceMethod ({ cls := "ChargePosts$State", name := "take", desc := "(LChargePosts$State;)V" } : MethodName)) ∈ jW := List.mem_filter.mpr ⟨jw2 (List.mem_of_getElem? (i := 92) rfl), rfl⟩
theorem tw_333 : (Cond.selects "ChargePosts$State" ({ cls := "ChargePosts$State", name := "take", desc := "(LChargePosts$State;)V" } : MethodName) ({ cls := "ChargePosts$State", name := "take", desc := "(LChargePosts$State;)V" } : MethodName)) ∈ jW := List.mem_filter.mpr ⟨jw2 (List.mem_of_getElem? (i := 93) rfl), rfl⟩
theorem tw_334 : (Cond.code ({ cls := "ChargePosts$State", name := "take", desc := "(LChargePosts$State;)V" } : MethodName) prog_6_method_3_code (2 : Nat) (Option.none : Option FieldType)) ∈ jW := List.mem_filter.mpr ⟨jw2 (List.mem_of_getElem? (i := 94) rfl), rfl⟩
theorem tw_335 : (Cond.methodLink "ChargePosts$State" (46 : Nat) ({ cls := "java/lang/System", name := "arraycopy", desc := "(Ljava/lang/Object;ILjava/lang/Object;II)V" } : MethodName)) ∈ jW := List.mem_filter.mpr ⟨jw2 (List.mem_of_getElem? (i := 95) rfl), rfl⟩
theorem tw_336 : (Cond.static ({ cls := "java/lang/System", name := "arraycopy", desc := "(Ljava/lang/Object;ILjava/lang/Object;II)V" } : MethodName)) ∈ jW := List.mem_filter.mpr ⟨jw2 (List.mem_of_getElem? (i := 96) rfl), rfl⟩
theorem tw_337 : (Cond.native ({ cls := "java/lang/System", name := "arraycopy", desc := "(Ljava/lang/Object;ILjava/lang/Object;II)V" } : MethodName)) ∈ jW := List.mem_filter.mpr ⟨jw2 (List.mem_of_getElem? (i := 97) rfl), rfl⟩
theorem tw_338 : (Cond.methodLink "ChargePosts" (142 : Nat) ({ cls := "ChargePosts$Feed", name := "passMinutes", desc := "(LChargePosts$State;I)I" } : MethodName)) ∈ jW := List.mem_filter.mpr ⟨jw2 (List.mem_of_getElem? (i := 98) rfl), rfl⟩
theorem tw_339 : (Cond.instanceMethod ({ cls := "ChargePosts$Feed", name := "passMinutes", desc := "(LChargePosts$State;I)I" } : MethodName)) ∈ jW := List.mem_filter.mpr ⟨jw2 (List.mem_of_getElem? (i := 99) rfl), rfl⟩
theorem tw_340 : (Cond.selects "ChargePosts$Feed" ({ cls := "ChargePosts$Feed", name := "passMinutes", desc := "(LChargePosts$State;I)I" } : MethodName) ({ cls := "ChargePosts$Feed", name := "passMinutes", desc := "(LChargePosts$State;I)I" } : MethodName)) ∈ jW := List.mem_filter.mpr ⟨jw2 (List.mem_of_getElem? (i := 100) rfl), rfl⟩
theorem tw_341 : (Cond.code ({ cls := "ChargePosts$Feed", name := "passMinutes", desc := "(LChargePosts$State;I)I" } : MethodName) prog_2_method_4_code (3 : Nat) (Option.some FieldType.int)) ∈ jW := List.mem_filter.mpr ⟨jw2 (List.mem_of_getElem? (i := 101) rfl), rfl⟩
theorem tw_342 : (Cond.methodLink "ChargePosts$Feed" (35 : Nat) ({ cls := "ChargePosts$Feed", name := "pass", desc := "(LChargePosts$State;IIII)V" } : MethodName)) ∈ jW := List.mem_filter.mpr ⟨jw2 (List.mem_of_getElem? (i := 102) rfl), rfl⟩
theorem tw_343 : (Cond.instanceMethod ({ cls := "ChargePosts$Feed", name := "pass", desc := "(LChargePosts$State;IIII)V" } : MethodName)) ∈ jW := List.mem_filter.mpr ⟨jw2 (List.mem_of_getElem? (i := 103) rfl), rfl⟩
theorem tw_344 : (Cond.selects "ChargePosts$Feed" ({ cls := "ChargePosts$Feed", name := "pass", desc := "(LChargePosts$State;IIII)V" } : MethodName) ({ cls := "ChargePosts$Feed", name := "pass", desc := "(LChargePosts$State;IIII)V" } : MethodName)) ∈ jW := List.mem_filter.mpr ⟨jw2 (List.mem_of_getElem? (i := 104) rfl), rfl⟩
theorem tw_345 : (Cond.code ({ cls := "ChargePosts$Feed", name := "pass", desc := "(LChargePosts$State;IIII)V" } : MethodName) prog_2_method_11_code (8 : Nat) (Option.none : Option FieldType)) ∈ jW := List.mem_filter.mpr ⟨jw2 (List.mem_of_getElem? (i := 105) rfl), rfl⟩
theorem tw_346 : (Cond.methodLink "ChargePosts$Feed" (90 : Nat) ({ cls := "ChargePosts$Feed", name := "growSilent", desc := "(LChargePosts$State;II)V" } : MethodName)) ∈ jW := List.mem_filter.mpr ⟨jw2 (List.mem_of_getElem? (i := 106) rfl), rfl⟩
theorem tw_348 : (Cond.instanceMethod ({ cls := "ChargePosts$Feed", name := "growSilent", desc := "(LChargePosts$State;II)V" } : MethodName)) ∈ jW := List.mem_filter.mpr ⟨jw2 (List.mem_of_getElem? (i := 108) rfl), rfl⟩
theorem tw_349 : (Cond.code ({ cls := "ChargePosts$Feed", name := "growSilent", desc := "(LChargePosts$State;II)V" } : MethodName) prog_2_method_13_code (6 : Nat) (Option.none : Option FieldType)) ∈ jW := List.mem_filter.mpr ⟨jw2 (List.mem_of_getElem? (i := 109) rfl), rfl⟩
theorem tw_350 : (Cond.methodLink "ChargePosts$Feed" (67 : Nat) ({ cls := "ChargePosts$State", name := "isLive", desc := "(I)Z" } : MethodName)) ∈ jW := List.mem_filter.mpr ⟨jw2 (List.mem_of_getElem? (i := 110) rfl), rfl⟩
theorem tw_351 : (Cond.instanceMethod ({ cls := "ChargePosts$State", name := "isLive", desc := "(I)Z" } : MethodName)) ∈ jW := List.mem_filter.mpr ⟨jw2 (List.mem_of_getElem? (i := 111) rfl), rfl⟩
theorem tw_352 : (Cond.selects "ChargePosts$State" ({ cls := "ChargePosts$State", name := "isLive", desc := "(I)Z" } : MethodName) ({ cls := "ChargePosts$State", name := "isLive", desc := "(I)Z" } : MethodName)) ∈ jW := List.mem_filter.mpr ⟨jw2 (List.mem_of_getElem? (i := 112) rfl), rfl⟩
theorem tw_353 : (Cond.code ({ cls := "ChargePosts$State", name := "isLive", desc := "(I)Z" } : MethodName) prog_6_method_9_code (3 : Nat) (Option.some FieldType.boolean)) ∈ jW := List.mem_filter.mpr ⟨jw2 (List.mem_of_getElem? (i := 113) rfl), rfl⟩
theorem tw_354 : (Cond.methodLink "ChargePosts$Feed" (70 : Nat) ({ cls := "ChargePosts$Feed", name := "kindAt", desc := "(LChargePosts$State;II)I" } : MethodName)) ∈ jW := List.mem_filter.mpr ⟨jw2 (List.mem_of_getElem? (i := 114) rfl), rfl⟩
theorem tw_356 : (Cond.instanceMethod ({ cls := "ChargePosts$Feed", name := "kindAt", desc := "(LChargePosts$State;II)I" } : MethodName)) ∈ jW := List.mem_filter.mpr ⟨jw2 (List.mem_of_getElem? (i := 116) rfl), rfl⟩
theorem tw_357 : (Cond.code ({ cls := "ChargePosts$Feed", name := "kindAt", desc := "(LChargePosts$State;II)I" } : MethodName) prog_2_method_12_code (5 : Nat) (Option.some FieldType.int)) ∈ jW := List.mem_filter.mpr ⟨jw2 (List.mem_of_getElem? (i := 117) rfl), rfl⟩
theorem tw_358 : (Cond.methodLink "ChargePosts$Feed" (56 : Nat) ({ cls := "ChargePosts$State", name := "set", desc := "(III)V" } : MethodName)) ∈ jW := List.mem_filter.mpr ⟨jw2 (List.mem_of_getElem? (i := 118) rfl), rfl⟩
theorem tw_359 : (Cond.methodLink "ChargePosts$Feed" (93 : Nat) ({ cls := "ChargePosts$Feed", name := "changeStates", desc := "(LChargePosts$State;I)V" } : MethodName)) ∈ jW := List.mem_filter.mpr ⟨jw2 (List.mem_of_getElem? (i := 119) rfl), rfl⟩
theorem tw_361 : (Cond.instanceMethod ({ cls := "ChargePosts$Feed", name := "changeStates", desc := "(LChargePosts$State;I)V" } : MethodName)) ∈ jW := List.mem_filter.mpr ⟨jw2 (List.mem_of_getElem? (i := 121) rfl), rfl⟩
theorem tw_362 : (Cond.code ({ cls := "ChargePosts$Feed", name := "changeStates", desc := "(LChargePosts$State;I)V" } : MethodName) prog_2_method_14_code (6 : Nat) (Option.none : Option FieldType)) ∈ jW := List.mem_filter.mpr ⟨jw2 (List.mem_of_getElem? (i := 122) rfl), rfl⟩
theorem tw_363 : (Cond.methodLink "ChargePosts$Feed" (122 : Nat) ({ cls := "ChargePosts$Feed", name := "growOlder", desc := "(LChargePosts$State;II)V" } : MethodName)) ∈ jW := List.mem_filter.mpr ⟨jw2 (List.mem_of_getElem? (i := 123) rfl), rfl⟩
theorem tw_365 : (Cond.instanceMethod ({ cls := "ChargePosts$Feed", name := "growOlder", desc := "(LChargePosts$State;II)V" } : MethodName)) ∈ jW := List.mem_filter.mpr ⟨jw2 (List.mem_of_getElem? (i := 125) rfl), rfl⟩
theorem tw_366 : (Cond.code ({ cls := "ChargePosts$Feed", name := "growOlder", desc := "(LChargePosts$State;II)V" } : MethodName) prog_2_method_15_code (5 : Nat) (Option.none : Option FieldType)) ∈ jW := List.mem_filter.mpr ⟨jw2 (List.mem_of_getElem? (i := 126) rfl), rfl⟩
theorem tw_367 : (Cond.methodLink "ChargePosts$Feed" (97 : Nat) ({ cls := "ChargePosts$Feed", name := "give", desc := "(LChargePosts$State;II)V" } : MethodName)) ∈ jW := List.mem_filter.mpr ⟨jw2 (List.mem_of_getElem? (i := 127) rfl), rfl⟩
theorem tw_369 : (Cond.instanceMethod ({ cls := "ChargePosts$Feed", name := "give", desc := "(LChargePosts$State;II)V" } : MethodName)) ∈ jW := List.mem_filter.mpr ⟨jw2 (List.mem_of_getElem? (i := 129) rfl), rfl⟩
theorem tw_370 : (Cond.code ({ cls := "ChargePosts$Feed", name := "give", desc := "(LChargePosts$State;II)V" } : MethodName) prog_2_method_18_code (7 : Nat) (Option.none : Option FieldType)) ∈ jW := List.mem_filter.mpr ⟨jw2 (List.mem_of_getElem? (i := 130) rfl), rfl⟩
theorem tw_371 : (Cond.methodLink "ChargePosts$Feed" (129 : Nat) ({ cls := "ChargePosts$Feed", name := "mostFor", desc := "(LChargePosts$State;II)I" } : MethodName)) ∈ jW := List.mem_filter.mpr ⟨jw2 (List.mem_of_getElem? (i := 131) rfl), rfl⟩
theorem tw_373 : (Cond.instanceMethod ({ cls := "ChargePosts$Feed", name := "mostFor", desc := "(LChargePosts$State;II)I" } : MethodName)) ∈ jW := List.mem_filter.mpr ⟨jw2 (List.mem_of_getElem? (i := 133) rfl), rfl⟩
theorem tw_374 : (Cond.code ({ cls := "ChargePosts$Feed", name := "mostFor", desc := "(LChargePosts$State;II)I" } : MethodName) prog_2_method_19_code (6 : Nat) (Option.some FieldType.int)) ∈ jW := List.mem_filter.mpr ⟨jw2 (List.mem_of_getElem? (i := 134) rfl), rfl⟩
theorem tw_375 : (Cond.methodLink "ChargePosts$Feed" (137 : Nat) ({ cls := "ChargePosts$Site", name := "ampsOf", desc := "(I)I" } : MethodName)) ∈ jW := List.mem_filter.mpr ⟨jw2 (List.mem_of_getElem? (i := 135) rfl), rfl⟩
theorem tw_376 : (Cond.methodLink "ChargePosts$Feed" (132 : Nat) ({ cls := "java/lang/Math", name := "min", desc := "(II)I" } : MethodName)) ∈ jW := List.mem_filter.mpr ⟨jw2 (List.mem_of_getElem? (i := 136) rfl), rfl⟩
theorem tw_377 : (Cond.static ({ cls := "java/lang/Math", name := "min", desc := "(II)I" } : MethodName)) ∈ jW := List.mem_filter.mpr ⟨jw2 (List.mem_of_getElem? (i := 137) rfl), rfl⟩
theorem tw_378 : (Cond.code ({ cls := "java/lang/Math", name := "min", desc := "(II)I" } : MethodName) prog_11_method_69_code (2 : Nat) (Option.some FieldType.int)) ∈ jW := List.mem_filter.mpr ⟨jw2 (List.mem_of_getElem? (i := 138) rfl), rfl⟩
theorem tw_379 : (Cond.methodLink "ChargePosts$Feed" (100 : Nat) ({ cls := "ChargePosts$Feed", name := "draw", desc := "(LChargePosts$State;II)V" } : MethodName)) ∈ jW := List.mem_filter.mpr ⟨jw2 (List.mem_of_getElem? (i := 139) rfl), rfl⟩
theorem tw_381 : (Cond.instanceMethod ({ cls := "ChargePosts$Feed", name := "draw", desc := "(LChargePosts$State;II)V" } : MethodName)) ∈ jW := List.mem_filter.mpr ⟨jw2 (List.mem_of_getElem? (i := 141) rfl), rfl⟩
theorem tw_382 : (Cond.code ({ cls := "ChargePosts$Feed", name := "draw", desc := "(LChargePosts$State;II)V" } : MethodName) prog_2_method_20_code (6 : Nat) (Option.none : Option FieldType)) ∈ jW := List.mem_filter.mpr ⟨jw2 (List.mem_of_getElem? (i := 142) rfl), rfl⟩
theorem tw_383 : (Cond.methodLink "ChargePosts$Feed" (140 : Nat) ({ cls := "ChargePosts$Feed", name := "meter", desc := "(LChargePosts$State;II)V" } : MethodName)) ∈ jW := List.mem_filter.mpr ⟨jw2 (List.mem_of_getElem? (i := 143) rfl), rfl⟩
theorem tw_385 : (Cond.instanceMethod ({ cls := "ChargePosts$Feed", name := "meter", desc := "(LChargePosts$State;II)V" } : MethodName)) ∈ jW := List.mem_filter.mpr ⟨jw2 (List.mem_of_getElem? (i := 145) rfl), rfl⟩
theorem tw_386 : (Cond.code ({ cls := "ChargePosts$Feed", name := "meter", desc := "(LChargePosts$State;II)V" } : MethodName) prog_2_method_21_code (5 : Nat) (Option.none : Option FieldType)) ∈ jW := List.mem_filter.mpr ⟨jw2 (List.mem_of_getElem? (i := 146) rfl), rfl⟩
theorem tw_387 : (Cond.methodLink "ChargePosts$Feed" (146 : Nat) ({ cls := "java/lang/Math", name := "max", desc := "(II)I" } : MethodName)) ∈ jW := List.mem_filter.mpr ⟨jw2 (List.mem_of_getElem? (i := 147) rfl), rfl⟩
theorem tw_388 : (Cond.static ({ cls := "java/lang/Math", name := "max", desc := "(II)I" } : MethodName)) ∈ jW := List.mem_filter.mpr ⟨jw2 (List.mem_of_getElem? (i := 148) rfl), rfl⟩
theorem tw_389 : (Cond.code ({ cls := "java/lang/Math", name := "max", desc := "(II)I" } : MethodName) prog_11_method_65_code (2 : Nat) (Option.some FieldType.int)) ∈ jW := List.mem_filter.mpr ⟨jw2 (List.mem_of_getElem? (i := 149) rfl), rfl⟩
theorem tw_390 : (Cond.methodLink "ChargePosts$Feed" (149 : Nat) ({ cls := "ChargePosts$State", name := "setRest", desc := "(II)V" } : MethodName)) ∈ jW := List.mem_filter.mpr ⟨jw2 (List.mem_of_getElem? (i := 150) rfl), rfl⟩
theorem tw_391 : (Cond.instanceMethod ({ cls := "ChargePosts$State", name := "setRest", desc := "(II)V" } : MethodName)) ∈ jW := List.mem_filter.mpr ⟨jw2 (List.mem_of_getElem? (i := 151) rfl), rfl⟩
theorem tw_392 : (Cond.selects "ChargePosts$State" ({ cls := "ChargePosts$State", name := "setRest", desc := "(II)V" } : MethodName) ({ cls := "ChargePosts$State", name := "setRest", desc := "(II)V" } : MethodName)) ∈ jW := List.mem_filter.mpr ⟨jw2 (List.mem_of_getElem? (i := 152) rfl), rfl⟩
theorem tw_393 : (Cond.code ({ cls := "ChargePosts$State", name := "setRest", desc := "(II)V" } : MethodName) prog_6_method_7_code (3 : Nat) (Option.none : Option FieldType)) ∈ jW := List.mem_filter.mpr ⟨jw2 (List.mem_of_getElem? (i := 153) rfl), rfl⟩
theorem tw_395 : (Cond.static ({ cls := "ChargePosts", name := "nextSign", desc := "(III)I" } : MethodName)) ∈ jW := List.mem_filter.mpr ⟨jw2 (List.mem_of_getElem? (i := 155) rfl), rfl⟩
theorem tw_396 : (Cond.code ({ cls := "ChargePosts", name := "nextSign", desc := "(III)I" } : MethodName) prog_1_method_39_code (3 : Nat) (Option.some FieldType.int)) ∈ jW := List.mem_filter.mpr ⟨jw2 (List.mem_of_getElem? (i := 156) rfl), rfl⟩
theorem tw_397 : (Cond.methodLink "ChargePosts$Feed" (143 : Nat) ({ cls := "ChargePosts$Feed", name := "exceed", desc := "(LChargePosts$State;I)V" } : MethodName)) ∈ jW := List.mem_filter.mpr ⟨jw2 (List.mem_of_getElem? (i := 157) rfl), rfl⟩
theorem tw_399 : (Cond.instanceMethod ({ cls := "ChargePosts$Feed", name := "exceed", desc := "(LChargePosts$State;I)V" } : MethodName)) ∈ jW := List.mem_filter.mpr ⟨jw2 (List.mem_of_getElem? (i := 159) rfl), rfl⟩
theorem tw_400 : (Cond.code ({ cls := "ChargePosts$Feed", name := "exceed", desc := "(LChargePosts$State;I)V" } : MethodName) prog_2_method_22_code (4 : Nat) (Option.none : Option FieldType)) ∈ jW := List.mem_filter.mpr ⟨jw2 (List.mem_of_getElem? (i := 160) rfl), rfl⟩
theorem tw_401 : (Cond.methodLink "ChargePosts$Feed" (39 : Nat) ({ cls := "ChargePosts$State", name := "meters", desc := "()I" } : MethodName)) ∈ jW := List.mem_filter.mpr ⟨jw2 (List.mem_of_getElem? (i := 161) rfl), rfl⟩
theorem tw_402 : (Cond.methodLink "ChargePosts" (146 : Nat) ({ cls := "ChargePosts", name := "settle", desc := "(I)I" } : MethodName)) ∈ jW := List.mem_filter.mpr ⟨jw2 (List.mem_of_getElem? (i := 162) rfl), rfl⟩
theorem tw_404 : (Cond.instanceMethod ({ cls := "ChargePosts", name := "settle", desc := "(I)I" } : MethodName)) ∈ jW := List.mem_filter.mpr ⟨jw2 (List.mem_of_getElem? (i := 164) rfl), rfl⟩
theorem tw_405 : (Cond.code ({ cls := "ChargePosts", name := "settle", desc := "(I)I" } : MethodName) prog_1_method_16_code (2 : Nat) (Option.some FieldType.int)) ∈ jW := List.mem_filter.mpr ⟨jw2 (List.mem_of_getElem? (i := 165) rfl), rfl⟩
theorem tw_406 : (Cond.methodLink "ChargePosts" (168 : Nat) ({ cls := "ChargePosts$History", name := "remember", desc := "(LChargePosts$State;)V" } : MethodName)) ∈ jW := List.mem_filter.mpr ⟨jw2 (List.mem_of_getElem? (i := 166) rfl), rfl⟩
theorem tw_407 : (Cond.instanceMethod ({ cls := "ChargePosts$History", name := "remember", desc := "(LChargePosts$State;)V" } : MethodName)) ∈ jW := List.mem_filter.mpr ⟨jw2 (List.mem_of_getElem? (i := 167) rfl), rfl⟩
theorem tw_408 : (Cond.selects "ChargePosts$History" ({ cls := "ChargePosts$History", name := "remember", desc := "(LChargePosts$State;)V" } : MethodName) ({ cls := "ChargePosts$History", name := "remember", desc := "(LChargePosts$State;)V" } : MethodName)) ∈ jW := List.mem_filter.mpr ⟨jw2 (List.mem_of_getElem? (i := 168) rfl), rfl⟩
theorem tw_409 : (Cond.code ({ cls := "ChargePosts$History", name := "remember", desc := "(LChargePosts$State;)V" } : MethodName) prog_3_method_2_code (2 : Nat) (Option.none : Option FieldType)) ∈ jW := List.mem_filter.mpr ⟨jw2 (List.mem_of_getElem? (i := 169) rfl), rfl⟩
theorem tw_410 : (Cond.methodLink "ChargePosts$History" (22 : Nat) ({ cls := "ChargePosts$State", name := "take", desc := "(LChargePosts$State;)V" } : MethodName)) ∈ jW := List.mem_filter.mpr ⟨jw2 (List.mem_of_getElem? (i := 170) rfl), rfl⟩
theorem tw_411 : (Cond.methodLink "ChargePosts$History" (29 : Nat) ({ cls := "java/lang/Math", name := "min", desc := "(II)I" } : MethodName)) ∈ jW := List.mem_filter.mpr ⟨jw2 (List.mem_of_getElem? (i := 171) rfl), rfl⟩
theorem tw_412 : (Cond.methodLink "ChargePostsLaw" (48 : Nat) ({ cls := "ChargePosts", name := "plug", desc := "(II)I" } : MethodName)) ∈ jW := List.mem_filter.mpr ⟨jw2 (List.mem_of_getElem? (i := 172) rfl), rfl⟩
theorem tw_413 : (Cond.instanceMethod ({ cls := "ChargePosts", name := "plug", desc := "(II)I" } : MethodName)) ∈ jW := List.mem_filter.mpr ⟨jw2 (List.mem_of_getElem? (i := 173) rfl), rfl⟩
theorem tw_414 : (Cond.selects "ChargePosts" ({ cls := "ChargePosts", name := "plug", desc := "(II)I" } : MethodName) ({ cls := "ChargePosts", name := "plug", desc := "(II)I" } : MethodName)) ∈ jW := List.mem_filter.mpr ⟨jw2 (List.mem_of_getElem? (i := 174) rfl), rfl⟩
theorem tw_415 : (Cond.code ({ cls := "ChargePosts", name := "plug", desc := "(II)I" } : MethodName) prog_1_method_10_code (3 : Nat) (Option.some FieldType.int)) ∈ jW := List.mem_filter.mpr ⟨jw2 (List.mem_of_getElem? (i := 175) rfl), rfl⟩
theorem tw_416 : (Cond.methodLink "ChargePosts" (149 : Nat) ({ cls := "ChargePosts$Feed", name := "plugIn", desc := "(LChargePosts$State;II)I" } : MethodName)) ∈ jW := List.mem_filter.mpr ⟨jw2 (List.mem_of_getElem? (i := 176) rfl), rfl⟩
theorem tw_417 : (Cond.instanceMethod ({ cls := "ChargePosts$Feed", name := "plugIn", desc := "(LChargePosts$State;II)I" } : MethodName)) ∈ jW := List.mem_filter.mpr ⟨jw2 (List.mem_of_getElem? (i := 177) rfl), rfl⟩
theorem tw_418 : (Cond.selects "ChargePosts$Feed" ({ cls := "ChargePosts$Feed", name := "plugIn", desc := "(LChargePosts$State;II)I" } : MethodName) ({ cls := "ChargePosts$Feed", name := "plugIn", desc := "(LChargePosts$State;II)I" } : MethodName)) ∈ jW := List.mem_filter.mpr ⟨jw2 (List.mem_of_getElem? (i := 178) rfl), rfl⟩
theorem tw_419 : (Cond.code ({ cls := "ChargePosts$Feed", name := "plugIn", desc := "(LChargePosts$State;II)I" } : MethodName) prog_2_method_5_code (4 : Nat) (Option.some FieldType.int)) ∈ jW := List.mem_filter.mpr ⟨jw2 (List.mem_of_getElem? (i := 179) rfl), rfl⟩
theorem tw_420 : (Cond.methodLink "ChargePosts$Feed" (43 : Nat) ({ cls := "ChargePosts$Site", name := "hasPost", desc := "(I)Z" } : MethodName)) ∈ jW := List.mem_filter.mpr ⟨jw2 (List.mem_of_getElem? (i := 180) rfl), rfl⟩
theorem tw_421 : (Cond.methodLink "ChargePosts$Feed" (49 : Nat) ({ cls := "ChargePosts$Site", name := "hasCar", desc := "(I)Z" } : MethodName)) ∈ jW := List.mem_filter.mpr ⟨jw2 (List.mem_of_getElem? (i := 181) rfl), rfl⟩
theorem tw_422 : (Cond.methodLink "ChargePosts$Feed" (52 : Nat) ({ cls := "ChargePosts$State", name := "postOf", desc := "(I)I" } : MethodName)) ∈ jW := List.mem_filter.mpr ⟨jw2 (List.mem_of_getElem? (i := 182) rfl), rfl⟩
theorem tw_423 : (Cond.methodLink "ChargePosts$Feed" (60 : Nat) ({ cls := "ChargePosts$State", name := "restart", desc := "(II)V" } : MethodName)) ∈ jW := List.mem_filter.mpr ⟨jw2 (List.mem_of_getElem? (i := 183) rfl), rfl⟩
theorem tw_424 : (Cond.methodLink "ChargePosts$Feed" (64 : Nat) ({ cls := "ChargePosts$State", name := "carsAtPosts", desc := "()I" } : MethodName)) ∈ jW := List.mem_filter.mpr ⟨jw2 (List.mem_of_getElem? (i := 184) rfl), rfl⟩
theorem tw_425 : (Cond.instanceMethod ({ cls := "ChargePosts$State", name := "carsAtPosts", desc := "()I" } : MethodName)) ∈ jW := List.mem_filter.mpr ⟨jw2 (List.mem_of_getElem? (i := 185) rfl), rfl⟩
theorem tw_426 : (Cond.selects "ChargePosts$State" ({ cls := "ChargePosts$State", name := "carsAtPosts", desc := "()I" } : MethodName) ({ cls := "ChargePosts$State", name := "carsAtPosts", desc := "()I" } : MethodName)) ∈ jW := List.mem_filter.mpr ⟨jw2 (List.mem_of_getElem? (i := 186) rfl), rfl⟩
theorem tw_427 : (Cond.code ({ cls := "ChargePosts$State", name := "carsAtPosts", desc := "()I" } : MethodName) prog_6_method_11_code (3 : Nat) (Option.some FieldType.int)) ∈ jW := List.mem_filter.mpr ⟨jw2 (List.mem_of_getElem? (i := 187) rfl), rfl⟩
theorem tw_428 : (Cond.methodLink "ChargePostsLaw" (52 : Nat) ({ cls := "ChargePosts", name := "pull", desc := "(I)I" } : MethodName)) ∈ jW := List.mem_filter.mpr ⟨jw2 (List.mem_of_getElem? (i := 188) rfl), rfl⟩
theorem tw_429 : (Cond.instanceMethod ({ cls := "ChargePosts", name := "pull", desc := "(I)I" } : MethodName)) ∈ jW := List.mem_filter.mpr ⟨jw2 (List.mem_of_getElem? (i := 189) rfl), rfl⟩
theorem tw_430 : (Cond.selects "ChargePosts" ({ cls := "ChargePosts", name := "pull", desc := "(I)I" } : MethodName) ({ cls := "ChargePosts", name := "pull", desc := "(I)I" } : MethodName)) ∈ jW := List.mem_filter.mpr ⟨jw2 (List.mem_of_getElem? (i := 190) rfl), rfl⟩
theorem tw_431 : (Cond.code ({ cls := "ChargePosts", name := "pull", desc := "(I)I" } : MethodName) prog_1_method_11_code (2 : Nat) (Option.some FieldType.int)) ∈ jW := List.mem_filter.mpr ⟨jw2 (List.mem_of_getElem? (i := 191) rfl), rfl⟩
theorem tw_432 : (Cond.methodLink "ChargePosts" (152 : Nat) ({ cls := "ChargePosts$Feed", name := "pullOut", desc := "(LChargePosts$State;I)I" } : MethodName)) ∈ jW := List.mem_filter.mpr ⟨jw2 (List.mem_of_getElem? (i := 192) rfl), rfl⟩
theorem tw_433 : (Cond.instanceMethod ({ cls := "ChargePosts$Feed", name := "pullOut", desc := "(LChargePosts$State;I)I" } : MethodName)) ∈ jW := List.mem_filter.mpr ⟨jw2 (List.mem_of_getElem? (i := 193) rfl), rfl⟩
theorem tw_434 : (Cond.selects "ChargePosts$Feed" ({ cls := "ChargePosts$Feed", name := "pullOut", desc := "(LChargePosts$State;I)I" } : MethodName) ({ cls := "ChargePosts$Feed", name := "pullOut", desc := "(LChargePosts$State;I)I" } : MethodName)) ∈ jW := List.mem_filter.mpr ⟨jw2 (List.mem_of_getElem? (i := 194) rfl), rfl⟩
theorem tw_435 : (Cond.code ({ cls := "ChargePosts$Feed", name := "pullOut", desc := "(LChargePosts$State;I)I" } : MethodName) prog_2_method_6_code (4 : Nat) (Option.some FieldType.int)) ∈ jW := List.mem_filter.mpr ⟨jw2 (List.mem_of_getElem? (i := 195) rfl), rfl⟩
theorem tw_436 : (Cond.methodLink "ChargePostsLaw" (56 : Nat) ({ cls := "ChargePosts", name := "say", desc := "(II)I" } : MethodName)) ∈ jW := List.mem_filter.mpr ⟨jw2 (List.mem_of_getElem? (i := 196) rfl), rfl⟩
theorem tw_437 : (Cond.instanceMethod ({ cls := "ChargePosts", name := "say", desc := "(II)I" } : MethodName)) ∈ jW := List.mem_filter.mpr ⟨jw2 (List.mem_of_getElem? (i := 197) rfl), rfl⟩
theorem tw_438 : (Cond.selects "ChargePosts" ({ cls := "ChargePosts", name := "say", desc := "(II)I" } : MethodName) ({ cls := "ChargePosts", name := "say", desc := "(II)I" } : MethodName)) ∈ jW := List.mem_filter.mpr ⟨jw2 (List.mem_of_getElem? (i := 198) rfl), rfl⟩
theorem tw_439 : (Cond.code ({ cls := "ChargePosts", name := "say", desc := "(II)I" } : MethodName) prog_1_method_12_code (3 : Nat) (Option.some FieldType.int)) ∈ jW := List.mem_filter.mpr ⟨jw2 (List.mem_of_getElem? (i := 199) rfl), rfl⟩
theorem tw_440 : (Cond.methodLink "ChargePosts" (155 : Nat) ({ cls := "ChargePosts$Feed", name := "tell", desc := "(LChargePosts$State;II)I" } : MethodName)) ∈ jW := List.mem_filter.mpr ⟨jw2 (List.mem_of_getElem? (i := 200) rfl), rfl⟩
theorem tw_441 : (Cond.instanceMethod ({ cls := "ChargePosts$Feed", name := "tell", desc := "(LChargePosts$State;II)I" } : MethodName)) ∈ jW := List.mem_filter.mpr ⟨jw2 (List.mem_of_getElem? (i := 201) rfl), rfl⟩
theorem tw_442 : (Cond.selects "ChargePosts$Feed" ({ cls := "ChargePosts$Feed", name := "tell", desc := "(LChargePosts$State;II)I" } : MethodName) ({ cls := "ChargePosts$Feed", name := "tell", desc := "(LChargePosts$State;II)I" } : MethodName)) ∈ jW := List.mem_filter.mpr ⟨jw2 (List.mem_of_getElem? (i := 202) rfl), rfl⟩
theorem tw_443 : (Cond.code ({ cls := "ChargePosts$Feed", name := "tell", desc := "(LChargePosts$State;II)I" } : MethodName) prog_2_method_7_code (4 : Nat) (Option.some FieldType.int)) ∈ jW := List.mem_filter.mpr ⟨jw2 (List.mem_of_getElem? (i := 203) rfl), rfl⟩
theorem tw_444 : (Cond.methodLink "ChargePosts$Feed" (74 : Nat) ({ cls := "ChargePosts$Feed", name := "climb", desc := "(LChargePosts$State;II)V" } : MethodName)) ∈ jW := List.mem_filter.mpr ⟨jw2 (List.mem_of_getElem? (i := 204) rfl), rfl⟩
theorem tw_446 : (Cond.instanceMethod ({ cls := "ChargePosts$Feed", name := "climb", desc := "(LChargePosts$State;II)V" } : MethodName)) ∈ jW := List.mem_filter.mpr ⟨jw2 (List.mem_of_getElem? (i := 206) rfl), rfl⟩
theorem tw_447 : (Cond.code ({ cls := "ChargePosts$Feed", name := "climb", desc := "(LChargePosts$State;II)V" } : MethodName) prog_2_method_8_code (4 : Nat) (Option.none : Option FieldType)) ∈ jW := List.mem_filter.mpr ⟨jw2 (List.mem_of_getElem? (i := 207) rfl), rfl⟩
theorem tw_448 : (Cond.methodLink "ChargePostsLaw" (60 : Nat) ({ cls := "ChargePosts", name := "reset", desc := "(I)I" } : MethodName)) ∈ jW := List.mem_filter.mpr ⟨jw2 (List.mem_of_getElem? (i := 208) rfl), rfl⟩
theorem tw_449 : (Cond.instanceMethod ({ cls := "ChargePosts", name := "reset", desc := "(I)I" } : MethodName)) ∈ jW := List.mem_filter.mpr ⟨jw2 (List.mem_of_getElem? (i := 209) rfl), rfl⟩
theorem tw_450 : (Cond.selects "ChargePosts" ({ cls := "ChargePosts", name := "reset", desc := "(I)I" } : MethodName) ({ cls := "ChargePosts", name := "reset", desc := "(I)I" } : MethodName)) ∈ jW := List.mem_filter.mpr ⟨jw2 (List.mem_of_getElem? (i := 210) rfl), rfl⟩
theorem tw_451 : (Cond.code ({ cls := "ChargePosts", name := "reset", desc := "(I)I" } : MethodName) prog_1_method_13_code (2 : Nat) (Option.some FieldType.int)) ∈ jW := List.mem_filter.mpr ⟨jw2 (List.mem_of_getElem? (i := 211) rfl), rfl⟩
theorem tw_452 : (Cond.methodLink "ChargePosts" (158 : Nat) ({ cls := "ChargePosts$Feed", name := "revive", desc := "(LChargePosts$State;I)I" } : MethodName)) ∈ jW := List.mem_filter.mpr ⟨jw2 (List.mem_of_getElem? (i := 212) rfl), rfl⟩
theorem tw_453 : (Cond.instanceMethod ({ cls := "ChargePosts$Feed", name := "revive", desc := "(LChargePosts$State;I)I" } : MethodName)) ∈ jW := List.mem_filter.mpr ⟨jw2 (List.mem_of_getElem? (i := 213) rfl), rfl⟩
theorem tw_454 : (Cond.selects "ChargePosts$Feed" ({ cls := "ChargePosts$Feed", name := "revive", desc := "(LChargePosts$State;I)I" } : MethodName) ({ cls := "ChargePosts$Feed", name := "revive", desc := "(LChargePosts$State;I)I" } : MethodName)) ∈ jW := List.mem_filter.mpr ⟨jw2 (List.mem_of_getElem? (i := 214) rfl), rfl⟩
theorem tw_455 : (Cond.code ({ cls := "ChargePosts$Feed", name := "revive", desc := "(LChargePosts$State;I)I" } : MethodName) prog_2_method_9_code (3 : Nat) (Option.some FieldType.int)) ∈ jW := List.mem_filter.mpr ⟨jw2 (List.mem_of_getElem? (i := 215) rfl), rfl⟩
theorem tw_456 : (Cond.methodLink "ChargePosts$Feed" (78 : Nat) ({ cls := "ChargePosts$State", name := "postsIn", desc := "(I)I" } : MethodName)) ∈ jW := List.mem_filter.mpr ⟨jw2 (List.mem_of_getElem? (i := 216) rfl), rfl⟩
theorem tw_457 : (Cond.methodLink "ChargePosts$Feed" (81 : Nat) ({ cls := "java/lang/Integer", name := "bitCount", desc := "(I)I" } : MethodName)) ∈ jW := List.mem_filter.mpr ⟨jw2 (List.mem_of_getElem? (i := 217) rfl), rfl⟩
theorem tw_458 : (Cond.static ({ cls := "java/lang/Integer", name := "bitCount", desc := "(I)I" } : MethodName)) ∈ jW := List.mem_filter.mpr ⟨jw2 (List.mem_of_getElem? (i := 218) rfl), rfl⟩
theorem tw_459 : (Cond.code ({ cls := "java/lang/Integer", name := "bitCount", desc := "(I)I" } : MethodName) prog_10_method_49_code (1 : Nat) (Option.some FieldType.int)) ∈ jW := List.mem_filter.mpr ⟨jw2 (List.mem_of_getElem? (i := 219) rfl), rfl⟩
theorem tw_460 : (Cond.constant "java/lang/Integer" (265 : Nat) (1431655765 : Int32)) ∈ jW := List.mem_filter.mpr ⟨jw2 (List.mem_of_getElem? (i := 220) rfl), rfl⟩
theorem tw_461 : (Cond.constant "java/lang/Integer" (266 : Nat) (858993459 : Int32)) ∈ jW := List.mem_filter.mpr ⟨jw2 (List.mem_of_getElem? (i := 221) rfl), rfl⟩
theorem tw_462 : (Cond.constant "java/lang/Integer" (267 : Nat) (252645135 : Int32)) ∈ jW := List.mem_filter.mpr ⟨jw2 (List.mem_of_getElem? (i := 222) rfl), rfl⟩
theorem tw_463 : (Cond.methodLink "ChargePostsLaw" (64 : Nat) ({ cls := "ChargePosts", name := "limit", desc := "(I)I" } : MethodName)) ∈ jW := List.mem_filter.mpr ⟨jw2 (List.mem_of_getElem? (i := 223) rfl), rfl⟩
theorem tw_464 : (Cond.instanceMethod ({ cls := "ChargePosts", name := "limit", desc := "(I)I" } : MethodName)) ∈ jW := List.mem_filter.mpr ⟨jw2 (List.mem_of_getElem? (i := 224) rfl), rfl⟩
theorem tw_465 : (Cond.selects "ChargePosts" ({ cls := "ChargePosts", name := "limit", desc := "(I)I" } : MethodName) ({ cls := "ChargePosts", name := "limit", desc := "(I)I" } : MethodName)) ∈ jW := List.mem_filter.mpr ⟨jw2 (List.mem_of_getElem? (i := 225) rfl), rfl⟩
theorem tw_466 : (Cond.code ({ cls := "ChargePosts", name := "limit", desc := "(I)I" } : MethodName) prog_1_method_14_code (2 : Nat) (Option.some FieldType.int)) ∈ jW := List.mem_filter.mpr ⟨jw2 (List.mem_of_getElem? (i := 226) rfl), rfl⟩
theorem tw_467 : (Cond.methodLink "ChargePosts" (161 : Nat) ({ cls := "ChargePosts$Feed", name := "changeLimit", desc := "(LChargePosts$State;I)I" } : MethodName)) ∈ jW := List.mem_filter.mpr ⟨jw2 (List.mem_of_getElem? (i := 227) rfl), rfl⟩
theorem tw_468 : (Cond.instanceMethod ({ cls := "ChargePosts$Feed", name := "changeLimit", desc := "(LChargePosts$State;I)I" } : MethodName)) ∈ jW := List.mem_filter.mpr ⟨jw2 (List.mem_of_getElem? (i := 228) rfl), rfl⟩
theorem tw_469 : (Cond.selects "ChargePosts$Feed" ({ cls := "ChargePosts$Feed", name := "changeLimit", desc := "(LChargePosts$State;I)I" } : MethodName) ({ cls := "ChargePosts$Feed", name := "changeLimit", desc := "(LChargePosts$State;I)I" } : MethodName)) ∈ jW := List.mem_filter.mpr ⟨jw2 (List.mem_of_getElem? (i := 229) rfl), rfl⟩
theorem tw_470 : (Cond.code ({ cls := "ChargePosts$Feed", name := "changeLimit", desc := "(LChargePosts$State;I)I" } : MethodName) prog_2_method_10_code (4 : Nat) (Option.some FieldType.int)) ∈ jW := List.mem_filter.mpr ⟨jw2 (List.mem_of_getElem? (i := 230) rfl), rfl⟩
theorem tw_471 : (Cond.methodLink "ChargePostsLaw" (68 : Nat) ({ cls := "ChargePosts", name := "undo", desc := "()I" } : MethodName)) ∈ jW := List.mem_filter.mpr ⟨jw2 (List.mem_of_getElem? (i := 231) rfl), rfl⟩
theorem tw_472 : (Cond.instanceMethod ({ cls := "ChargePosts", name := "undo", desc := "()I" } : MethodName)) ∈ jW := List.mem_filter.mpr ⟨jw2 (List.mem_of_getElem? (i := 232) rfl), rfl⟩
theorem tw_473 : (Cond.selects "ChargePosts" ({ cls := "ChargePosts", name := "undo", desc := "()I" } : MethodName) ({ cls := "ChargePosts", name := "undo", desc := "()I" } : MethodName)) ∈ jW := List.mem_filter.mpr ⟨jw2 (List.mem_of_getElem? (i := 233) rfl), rfl⟩
theorem tw_474 : (Cond.code ({ cls := "ChargePosts", name := "undo", desc := "()I" } : MethodName) prog_1_method_15_code (1 : Nat) (Option.some FieldType.int)) ∈ jW := List.mem_filter.mpr ⟨jw2 (List.mem_of_getElem? (i := 234) rfl), rfl⟩
theorem tw_475 : (Cond.methodLink "ChargePosts" (164 : Nat) ({ cls := "ChargePosts$History", name := "restore", desc := "(LChargePosts$State;)I" } : MethodName)) ∈ jW := List.mem_filter.mpr ⟨jw2 (List.mem_of_getElem? (i := 235) rfl), rfl⟩
theorem tw_476 : (Cond.instanceMethod ({ cls := "ChargePosts$History", name := "restore", desc := "(LChargePosts$State;)I" } : MethodName)) ∈ jW := List.mem_filter.mpr ⟨jw2 (List.mem_of_getElem? (i := 236) rfl), rfl⟩
theorem tw_477 : (Cond.selects "ChargePosts$History" ({ cls := "ChargePosts$History", name := "restore", desc := "(LChargePosts$State;)I" } : MethodName) ({ cls := "ChargePosts$History", name := "restore", desc := "(LChargePosts$State;)I" } : MethodName)) ∈ jW := List.mem_filter.mpr ⟨jw2 (List.mem_of_getElem? (i := 237) rfl), rfl⟩
theorem tw_478 : (Cond.code ({ cls := "ChargePosts$History", name := "restore", desc := "(LChargePosts$State;)I" } : MethodName) prog_3_method_3_code (2 : Nat) (Option.some FieldType.int)) ∈ jW := List.mem_filter.mpr ⟨jw2 (List.mem_of_getElem? (i := 238) rfl), rfl⟩
theorem tw_479 : (Cond.methodLink "ChargePostsLaw" (72 : Nat) ({ cls := "ChargePosts", name := "ahead", desc := "(IZII)I" } : MethodName)) ∈ jW := List.mem_filter.mpr ⟨jw2 (List.mem_of_getElem? (i := 239) rfl), rfl⟩
theorem tw_480 : (Cond.instanceMethod ({ cls := "ChargePosts", name := "ahead", desc := "(IZII)I" } : MethodName)) ∈ jW := List.mem_filter.mpr ⟨jw3 (List.mem_of_getElem? (i := 0) rfl), rfl⟩
theorem tw_481 : (Cond.selects "ChargePosts" ({ cls := "ChargePosts", name := "ahead", desc := "(IZII)I" } : MethodName) ({ cls := "ChargePosts", name := "ahead", desc := "(IZII)I" } : MethodName)) ∈ jW := List.mem_filter.mpr ⟨jw3 (List.mem_of_getElem? (i := 1) rfl), rfl⟩
theorem tw_482 : (Cond.code ({ cls := "ChargePosts", name := "ahead", desc := "(IZII)I" } : MethodName) prog_1_method_17_code (5 : Nat) (Option.some FieldType.int)) ∈ jW := List.mem_filter.mpr ⟨jw3 (List.mem_of_getElem? (i := 2) rfl), rfl⟩
theorem tw_483 : (Cond.methodLink "ChargePosts" (171 : Nat) ({ cls := "ChargePosts$Feed", name := "pass", desc := "(LChargePosts$State;IIII)V" } : MethodName)) ∈ jW := List.mem_filter.mpr ⟨jw3 (List.mem_of_getElem? (i := 3) rfl), rfl⟩
theorem tw_484 : (Cond.methodLink "ChargePostsLaw" (77 : Nat) ({ cls := "ChargePosts", name := "done", desc := "(I)I" } : MethodName)) ∈ jW := List.mem_filter.mpr ⟨jw3 (List.mem_of_getElem? (i := 4) rfl), rfl⟩
theorem tw_485 : (Cond.instanceMethod ({ cls := "ChargePosts", name := "done", desc := "(I)I" } : MethodName)) ∈ jW := List.mem_filter.mpr ⟨jw3 (List.mem_of_getElem? (i := 5) rfl), rfl⟩
theorem tw_486 : (Cond.selects "ChargePosts" ({ cls := "ChargePosts", name := "done", desc := "(I)I" } : MethodName) ({ cls := "ChargePosts", name := "done", desc := "(I)I" } : MethodName)) ∈ jW := List.mem_filter.mpr ⟨jw3 (List.mem_of_getElem? (i := 6) rfl), rfl⟩
theorem tw_487 : (Cond.code ({ cls := "ChargePosts", name := "done", desc := "(I)I" } : MethodName) prog_1_method_18_code (3 : Nat) (Option.some FieldType.int)) ∈ jW := List.mem_filter.mpr ⟨jw3 (List.mem_of_getElem? (i := 7) rfl), rfl⟩
theorem tw_488 : (Cond.methodLink "ChargePostsLaw" (81 : Nat) ({ cls := "ChargePosts", name := "least", desc := "(I)I" } : MethodName)) ∈ jW := List.mem_filter.mpr ⟨jw3 (List.mem_of_getElem? (i := 8) rfl), rfl⟩
theorem tw_489 : (Cond.instanceMethod ({ cls := "ChargePosts", name := "least", desc := "(I)I" } : MethodName)) ∈ jW := List.mem_filter.mpr ⟨jw3 (List.mem_of_getElem? (i := 9) rfl), rfl⟩
theorem tw_490 : (Cond.selects "ChargePosts" ({ cls := "ChargePosts", name := "least", desc := "(I)I" } : MethodName) ({ cls := "ChargePosts", name := "least", desc := "(I)I" } : MethodName)) ∈ jW := List.mem_filter.mpr ⟨jw3 (List.mem_of_getElem? (i := 10) rfl), rfl⟩
theorem tw_491 : (Cond.code ({ cls := "ChargePosts", name := "least", desc := "(I)I" } : MethodName) prog_1_method_19_code (4 : Nat) (Option.some FieldType.int)) ∈ jW := List.mem_filter.mpr ⟨jw3 (List.mem_of_getElem? (i := 11) rfl), rfl⟩
theorem tw_492 : (Cond.methodLink "ChargePosts" (175 : Nat) ({ cls := "ChargePosts$Site", name := "allAmps", desc := "()I" } : MethodName)) ∈ jW := List.mem_filter.mpr ⟨jw3 (List.mem_of_getElem? (i := 12) rfl), rfl⟩
theorem tw_493 : (Cond.instanceMethod ({ cls := "ChargePosts$Site", name := "allAmps", desc := "()I" } : MethodName)) ∈ jW := List.mem_filter.mpr ⟨jw3 (List.mem_of_getElem? (i := 13) rfl), rfl⟩
theorem tw_494 : (Cond.selects "ChargePosts$Site" ({ cls := "ChargePosts$Site", name := "allAmps", desc := "()I" } : MethodName) ({ cls := "ChargePosts$Site", name := "allAmps", desc := "()I" } : MethodName)) ∈ jW := List.mem_filter.mpr ⟨jw3 (List.mem_of_getElem? (i := 14) rfl), rfl⟩
theorem tw_495 : (Cond.code ({ cls := "ChargePosts$Site", name := "allAmps", desc := "()I" } : MethodName) prog_5_method_8_code (3 : Nat) (Option.some FieldType.int)) ∈ jW := List.mem_filter.mpr ⟨jw3 (List.mem_of_getElem? (i := 15) rfl), rfl⟩
theorem tw_496 : (Cond.methodLink "ChargePosts$Site" (51 : Nat) ({ cls := "ChargePosts$Site", name := "ampsOf", desc := "(I)I" } : MethodName)) ∈ jW := List.mem_filter.mpr ⟨jw3 (List.mem_of_getElem? (i := 16) rfl), rfl⟩
theorem tw_497 : (Cond.methodLink "ChargePosts" (178 : Nat) ({ cls := "ChargePosts$State", name := "allCharged", desc := "()Z" } : MethodName)) ∈ jW := List.mem_filter.mpr ⟨jw3 (List.mem_of_getElem? (i := 17) rfl), rfl⟩
theorem tw_498 : (Cond.instanceMethod ({ cls := "ChargePosts$State", name := "allCharged", desc := "()Z" } : MethodName)) ∈ jW := List.mem_filter.mpr ⟨jw3 (List.mem_of_getElem? (i := 18) rfl), rfl⟩
theorem tw_499 : (Cond.selects "ChargePosts$State" ({ cls := "ChargePosts$State", name := "allCharged", desc := "()Z" } : MethodName) ({ cls := "ChargePosts$State", name := "allCharged", desc := "()Z" } : MethodName)) ∈ jW := List.mem_filter.mpr ⟨jw3 (List.mem_of_getElem? (i := 19) rfl), rfl⟩
theorem tw_500 : (Cond.code ({ cls := "ChargePosts$State", name := "allCharged", desc := "()Z" } : MethodName) prog_6_method_12_code (2 : Nat) (Option.some FieldType.boolean)) ∈ jW := List.mem_filter.mpr ⟨jw3 (List.mem_of_getElem? (i := 20) rfl), rfl⟩
theorem tw_501 : (Cond.methodLink "ChargePostsLaw" (85 : Nat) ({ cls := "ChargePosts", name := "signed", desc := "(III)I" } : MethodName)) ∈ jW := List.mem_filter.mpr ⟨jw3 (List.mem_of_getElem? (i := 21) rfl), rfl⟩
theorem tw_502 : (Cond.instanceMethod ({ cls := "ChargePosts", name := "signed", desc := "(III)I" } : MethodName)) ∈ jW := List.mem_filter.mpr ⟨jw3 (List.mem_of_getElem? (i := 22) rfl), rfl⟩
theorem tw_503 : (Cond.selects "ChargePosts" ({ cls := "ChargePosts", name := "signed", desc := "(III)I" } : MethodName) ({ cls := "ChargePosts", name := "signed", desc := "(III)I" } : MethodName)) ∈ jW := List.mem_filter.mpr ⟨jw3 (List.mem_of_getElem? (i := 23) rfl), rfl⟩
theorem tw_504 : (Cond.code ({ cls := "ChargePosts", name := "signed", desc := "(III)I" } : MethodName) prog_1_method_20_code (4 : Nat) (Option.some FieldType.int)) ∈ jW := List.mem_filter.mpr ⟨jw3 (List.mem_of_getElem? (i := 24) rfl), rfl⟩
theorem tw_505 : (Cond.methodLink "ChargePosts" (182 : Nat) ({ cls := "ChargePosts", name := "power", desc := "(II)I" } : MethodName)) ∈ jW := List.mem_filter.mpr ⟨jw3 (List.mem_of_getElem? (i := 25) rfl), rfl⟩
theorem tw_506 : (Cond.static ({ cls := "ChargePosts", name := "power", desc := "(II)I" } : MethodName)) ∈ jW := List.mem_filter.mpr ⟨jw3 (List.mem_of_getElem? (i := 26) rfl), rfl⟩
theorem tw_507 : (Cond.code ({ cls := "ChargePosts", name := "power", desc := "(II)I" } : MethodName) prog_1_method_40_code (4 : Nat) (Option.some FieldType.int)) ∈ jW := List.mem_filter.mpr ⟨jw3 (List.mem_of_getElem? (i := 27) rfl), rfl⟩
theorem tw_508 : (Cond.methodLink "ChargePosts" (185 : Nat) ({ cls := "ChargePosts", name := "signOfRow", desc := "(III)I" } : MethodName)) ∈ jW := List.mem_filter.mpr ⟨jw3 (List.mem_of_getElem? (i := 28) rfl), rfl⟩
theorem tw_510 : (Cond.instanceMethod ({ cls := "ChargePosts", name := "signOfRow", desc := "(III)I" } : MethodName)) ∈ jW := List.mem_filter.mpr ⟨jw3 (List.mem_of_getElem? (i := 30) rfl), rfl⟩
theorem tw_511 : (Cond.code ({ cls := "ChargePosts", name := "signOfRow", desc := "(III)I" } : MethodName) prog_1_method_24_code (6 : Nat) (Option.some FieldType.int)) ∈ jW := List.mem_filter.mpr ⟨jw3 (List.mem_of_getElem? (i := 31) rfl), rfl⟩
theorem tw_512 : (Cond.methodLink "ChargePosts" (189 : Nat) ({ cls := "ChargePosts", name := "spread", desc := "(II)V" } : MethodName)) ∈ jW := List.mem_filter.mpr ⟨jw3 (List.mem_of_getElem? (i := 32) rfl), rfl⟩
theorem tw_514 : (Cond.instanceMethod ({ cls := "ChargePosts", name := "spread", desc := "(II)V" } : MethodName)) ∈ jW := List.mem_filter.mpr ⟨jw3 (List.mem_of_getElem? (i := 34) rfl), rfl⟩
theorem tw_515 : (Cond.code ({ cls := "ChargePosts", name := "spread", desc := "(II)V" } : MethodName) prog_1_method_25_code (5 : Nat) (Option.none : Option FieldType)) ∈ jW := List.mem_filter.mpr ⟨jw3 (List.mem_of_getElem? (i := 35) rfl), rfl⟩
theorem tw_516 : (Cond.methodLink "ChargePosts" (203 : Nat) ({ cls := "java/lang/Math", name := "min", desc := "(II)I" } : MethodName)) ∈ jW := List.mem_filter.mpr ⟨jw3 (List.mem_of_getElem? (i := 36) rfl), rfl⟩
theorem tw_517 : (Cond.methodLink "ChargePosts" (200 : Nat) ({ cls := "ChargePosts", name := "nextSign", desc := "(III)I" } : MethodName)) ∈ jW := List.mem_filter.mpr ⟨jw3 (List.mem_of_getElem? (i := 37) rfl), rfl⟩
theorem tw_518 : (Cond.methodLink "ChargePostsLaw" (90 : Nat) ({ cls := "ChargePosts", name := "forged", desc := "(III)I" } : MethodName)) ∈ jW := List.mem_filter.mpr ⟨jw3 (List.mem_of_getElem? (i := 38) rfl), rfl⟩
theorem tw_519 : (Cond.instanceMethod ({ cls := "ChargePosts", name := "forged", desc := "(III)I" } : MethodName)) ∈ jW := List.mem_filter.mpr ⟨jw3 (List.mem_of_getElem? (i := 39) rfl), rfl⟩
theorem tw_520 : (Cond.selects "ChargePosts" ({ cls := "ChargePosts", name := "forged", desc := "(III)I" } : MethodName) ({ cls := "ChargePosts", name := "forged", desc := "(III)I" } : MethodName)) ∈ jW := List.mem_filter.mpr ⟨jw3 (List.mem_of_getElem? (i := 40) rfl), rfl⟩
theorem tw_521 : (Cond.code ({ cls := "ChargePosts", name := "forged", desc := "(III)I" } : MethodName) prog_1_method_21_code (6 : Nat) (Option.some FieldType.int)) ∈ jW := List.mem_filter.mpr ⟨jw3 (List.mem_of_getElem? (i := 41) rfl), rfl⟩
theorem tw_522 : (Cond.methodLink "ChargePostsLaw" (94 : Nat) ({ cls := "ChargePosts", name := "judge", desc := "(II)I" } : MethodName)) ∈ jW := List.mem_filter.mpr ⟨jw3 (List.mem_of_getElem? (i := 42) rfl), rfl⟩
theorem tw_523 : (Cond.instanceMethod ({ cls := "ChargePosts", name := "judge", desc := "(II)I" } : MethodName)) ∈ jW := List.mem_filter.mpr ⟨jw3 (List.mem_of_getElem? (i := 43) rfl), rfl⟩
theorem tw_524 : (Cond.selects "ChargePosts" ({ cls := "ChargePosts", name := "judge", desc := "(II)I" } : MethodName) ({ cls := "ChargePosts", name := "judge", desc := "(II)I" } : MethodName)) ∈ jW := List.mem_filter.mpr ⟨jw3 (List.mem_of_getElem? (i := 44) rfl), rfl⟩
theorem tw_525 : (Cond.code ({ cls := "ChargePosts", name := "judge", desc := "(II)I" } : MethodName) prog_1_method_22_code (4 : Nat) (Option.some FieldType.int)) ∈ jW := List.mem_filter.mpr ⟨jw3 (List.mem_of_getElem? (i := 45) rfl), rfl⟩
theorem tw_526 : (Cond.methodLink "ChargePosts" (193 : Nat) ({ cls := "ChargePosts", name := "holds", desc := "(III)Z" } : MethodName)) ∈ jW := List.mem_filter.mpr ⟨jw3 (List.mem_of_getElem? (i := 46) rfl), rfl⟩
theorem tw_528 : (Cond.instanceMethod ({ cls := "ChargePosts", name := "holds", desc := "(III)Z" } : MethodName)) ∈ jW := List.mem_filter.mpr ⟨jw3 (List.mem_of_getElem? (i := 48) rfl), rfl⟩
theorem tw_529 : (Cond.code ({ cls := "ChargePosts", name := "holds", desc := "(III)Z" } : MethodName) prog_1_method_23_code (4 : Nat) (Option.some FieldType.boolean)) ∈ jW := List.mem_filter.mpr ⟨jw3 (List.mem_of_getElem? (i := 49) rfl), rfl⟩
theorem tw_530 : (Cond.methodLink "ChargePosts" (197 : Nat) ({ cls := "ChargePosts$State", name := "get", desc := "(II)I" } : MethodName)) ∈ jW := List.mem_filter.mpr ⟨jw3 (List.mem_of_getElem? (i := 50) rfl), rfl⟩
theorem tw_531 : (Cond.methodLink "ChargePostsLaw" (98 : Nat) ({ cls := "ChargePosts", name := "see", desc := "(III)I" } : MethodName)) ∈ jW := List.mem_filter.mpr ⟨jw3 (List.mem_of_getElem? (i := 51) rfl), rfl⟩
theorem tw_532 : (Cond.instanceMethod ({ cls := "ChargePosts", name := "see", desc := "(III)I" } : MethodName)) ∈ jW := List.mem_filter.mpr ⟨jw3 (List.mem_of_getElem? (i := 52) rfl), rfl⟩
theorem tw_533 : (Cond.selects "ChargePosts" ({ cls := "ChargePosts", name := "see", desc := "(III)I" } : MethodName) ({ cls := "ChargePosts", name := "see", desc := "(III)I" } : MethodName)) ∈ jW := List.mem_filter.mpr ⟨jw3 (List.mem_of_getElem? (i := 53) rfl), rfl⟩
theorem tw_534 : (Cond.code ({ cls := "ChargePosts", name := "see", desc := "(III)I" } : MethodName) prog_1_method_26_code (4 : Nat) (Option.some FieldType.int)) ∈ jW := List.mem_filter.mpr ⟨jw3 (List.mem_of_getElem? (i := 54) rfl), rfl⟩
theorem tw_535 : (Cond.methodLink "ChargePosts" (208 : Nat) ({ cls := "ChargePosts$Observations", name := "add", desc := "(III)Z" } : MethodName)) ∈ jW := List.mem_filter.mpr ⟨jw3 (List.mem_of_getElem? (i := 55) rfl), rfl⟩
theorem tw_536 : (Cond.instanceMethod ({ cls := "ChargePosts$Observations", name := "add", desc := "(III)Z" } : MethodName)) ∈ jW := List.mem_filter.mpr ⟨jw3 (List.mem_of_getElem? (i := 56) rfl), rfl⟩
theorem tw_537 : (Cond.selects "ChargePosts$Observations" ({ cls := "ChargePosts$Observations", name := "add", desc := "(III)Z" } : MethodName) ({ cls := "ChargePosts$Observations", name := "add", desc := "(III)Z" } : MethodName)) ∈ jW := List.mem_filter.mpr ⟨jw3 (List.mem_of_getElem? (i := 57) rfl), rfl⟩
theorem tw_538 : (Cond.code ({ cls := "ChargePosts$Observations", name := "add", desc := "(III)Z" } : MethodName) prog_4_method_2_code (4 : Nat) (Option.some FieldType.boolean)) ∈ jW := List.mem_filter.mpr ⟨jw3 (List.mem_of_getElem? (i := 58) rfl), rfl⟩
theorem tw_539 : (Cond.methodLink "ChargePostsLaw" (102 : Nat) ({ cls := "ChargePosts", name := "unsee", desc := "()I" } : MethodName)) ∈ jW := List.mem_filter.mpr ⟨jw3 (List.mem_of_getElem? (i := 59) rfl), rfl⟩
theorem tw_540 : (Cond.instanceMethod ({ cls := "ChargePosts", name := "unsee", desc := "()I" } : MethodName)) ∈ jW := List.mem_filter.mpr ⟨jw3 (List.mem_of_getElem? (i := 60) rfl), rfl⟩
theorem tw_541 : (Cond.selects "ChargePosts" ({ cls := "ChargePosts", name := "unsee", desc := "()I" } : MethodName) ({ cls := "ChargePosts", name := "unsee", desc := "()I" } : MethodName)) ∈ jW := List.mem_filter.mpr ⟨jw3 (List.mem_of_getElem? (i := 61) rfl), rfl⟩
theorem tw_542 : (Cond.code ({ cls := "ChargePosts", name := "unsee", desc := "()I" } : MethodName) prog_1_method_27_code (2 : Nat) (Option.some FieldType.int)) ∈ jW := List.mem_filter.mpr ⟨jw3 (List.mem_of_getElem? (i := 62) rfl), rfl⟩
theorem tw_543 : (Cond.methodLink "ChargePostsLaw" (106 : Nat) ({ cls := "ChargePosts", name := "which", desc := "()I" } : MethodName)) ∈ jW := List.mem_filter.mpr ⟨jw3 (List.mem_of_getElem? (i := 63) rfl), rfl⟩
theorem tw_544 : (Cond.instanceMethod ({ cls := "ChargePosts", name := "which", desc := "()I" } : MethodName)) ∈ jW := List.mem_filter.mpr ⟨jw3 (List.mem_of_getElem? (i := 64) rfl), rfl⟩
theorem tw_545 : (Cond.selects "ChargePosts" ({ cls := "ChargePosts", name := "which", desc := "()I" } : MethodName) ({ cls := "ChargePosts", name := "which", desc := "()I" } : MethodName)) ∈ jW := List.mem_filter.mpr ⟨jw3 (List.mem_of_getElem? (i := 65) rfl), rfl⟩
theorem tw_546 : (Cond.code ({ cls := "ChargePosts", name := "which", desc := "()I" } : MethodName) prog_1_method_28_code (3 : Nat) (Option.some FieldType.int)) ∈ jW := List.mem_filter.mpr ⟨jw3 (List.mem_of_getElem? (i := 66) rfl), rfl⟩
theorem tw_547 : (Cond.methodLink "ChargePosts" (211 : Nat) ({ cls := "ChargePosts", name := "mayLie", desc := "(I)Z" } : MethodName)) ∈ jW := List.mem_filter.mpr ⟨jw3 (List.mem_of_getElem? (i := 67) rfl), rfl⟩
theorem tw_549 : (Cond.instanceMethod ({ cls := "ChargePosts", name := "mayLie", desc := "(I)Z" } : MethodName)) ∈ jW := List.mem_filter.mpr ⟨jw3 (List.mem_of_getElem? (i := 69) rfl), rfl⟩
theorem tw_550 : (Cond.code ({ cls := "ChargePosts", name := "mayLie", desc := "(I)Z" } : MethodName) prog_1_method_29_code (3 : Nat) (Option.some FieldType.boolean)) ∈ jW := List.mem_filter.mpr ⟨jw3 (List.mem_of_getElem? (i := 70) rfl), rfl⟩
theorem tw_551 : (Cond.methodLink "ChargePosts" (214 : Nat) ({ cls := "ChargePosts$Observations", name := "deny", desc := "(LChargePosts$State;II)Z" } : MethodName)) ∈ jW := List.mem_filter.mpr ⟨jw3 (List.mem_of_getElem? (i := 71) rfl), rfl⟩
theorem tw_552 : (Cond.instanceMethod ({ cls := "ChargePosts$Observations", name := "deny", desc := "(LChargePosts$State;II)Z" } : MethodName)) ∈ jW := List.mem_filter.mpr ⟨jw3 (List.mem_of_getElem? (i := 72) rfl), rfl⟩
theorem tw_553 : (Cond.selects "ChargePosts$Observations" ({ cls := "ChargePosts$Observations", name := "deny", desc := "(LChargePosts$State;II)Z" } : MethodName) ({ cls := "ChargePosts$Observations", name := "deny", desc := "(LChargePosts$State;II)Z" } : MethodName)) ∈ jW := List.mem_filter.mpr ⟨jw3 (List.mem_of_getElem? (i := 73) rfl), rfl⟩
theorem tw_554 : (Cond.code ({ cls := "ChargePosts$Observations", name := "deny", desc := "(LChargePosts$State;II)Z" } : MethodName) prog_4_method_3_code (6 : Nat) (Option.some FieldType.boolean)) ∈ jW := List.mem_filter.mpr ⟨jw3 (List.mem_of_getElem? (i := 74) rfl), rfl⟩
theorem tw_555 : (Cond.methodLink "ChargePosts$Observations" (25 : Nat) ({ cls := "ChargePosts$State", name := "get", desc := "(II)I" } : MethodName)) ∈ jW := List.mem_filter.mpr ⟨jw3 (List.mem_of_getElem? (i := 75) rfl), rfl⟩
theorem tw_556 : (Cond.methodLink "ChargePostsLaw" (110 : Nat) ({ cls := "ChargePosts", name := "share", desc := "(IZ)I" } : MethodName)) ∈ jW := List.mem_filter.mpr ⟨jw3 (List.mem_of_getElem? (i := 76) rfl), rfl⟩
theorem tw_557 : (Cond.instanceMethod ({ cls := "ChargePosts", name := "share", desc := "(IZ)I" } : MethodName)) ∈ jW := List.mem_filter.mpr ⟨jw3 (List.mem_of_getElem? (i := 77) rfl), rfl⟩
theorem tw_558 : (Cond.selects "ChargePosts" ({ cls := "ChargePosts", name := "share", desc := "(IZ)I" } : MethodName) ({ cls := "ChargePosts", name := "share", desc := "(IZ)I" } : MethodName)) ∈ jW := List.mem_filter.mpr ⟨jw3 (List.mem_of_getElem? (i := 78) rfl), rfl⟩
theorem tw_559 : (Cond.code ({ cls := "ChargePosts", name := "share", desc := "(IZ)I" } : MethodName) prog_1_method_30_code (8 : Nat) (Option.some FieldType.int)) ∈ jW := List.mem_filter.mpr ⟨jw3 (List.mem_of_getElem? (i := 79) rfl), rfl⟩
theorem tw_560 : (Cond.methodLink "ChargePosts" (218 : Nat) ({ cls := "java/lang/Integer", name := "bitCount", desc := "(I)I" } : MethodName)) ∈ jW := List.mem_filter.mpr ⟨jw3 (List.mem_of_getElem? (i := 80) rfl), rfl⟩
theorem tw_561 : (Cond.methodLink "ChargePosts" (223 : Nat) ({ cls := "ChargePosts", name := "factorial", desc := "(I)I" } : MethodName)) ∈ jW := List.mem_filter.mpr ⟨jw3 (List.mem_of_getElem? (i := 81) rfl), rfl⟩
theorem tw_562 : (Cond.static ({ cls := "ChargePosts", name := "factorial", desc := "(I)I" } : MethodName)) ∈ jW := List.mem_filter.mpr ⟨jw3 (List.mem_of_getElem? (i := 82) rfl), rfl⟩
theorem tw_563 : (Cond.code ({ cls := "ChargePosts", name := "factorial", desc := "(I)I" } : MethodName) prog_1_method_41_code (3 : Nat) (Option.some FieldType.int)) ∈ jW := List.mem_filter.mpr ⟨jw3 (List.mem_of_getElem? (i := 83) rfl), rfl⟩
theorem tw_564 : (Cond.methodLink "ChargePosts" (226 : Nat) ({ cls := "ChargePosts", name := "has", desc := "(II)Z" } : MethodName)) ∈ jW := List.mem_filter.mpr ⟨jw3 (List.mem_of_getElem? (i := 84) rfl), rfl⟩
theorem tw_565 : (Cond.methodLink "ChargePosts" (230 : Nat) ({ cls := "ChargePosts", name := "worth", desc := "(I)I" } : MethodName)) ∈ jW := List.mem_filter.mpr ⟨jw3 (List.mem_of_getElem? (i := 85) rfl), rfl⟩
theorem tw_567 : (Cond.instanceMethod ({ cls := "ChargePosts", name := "worth", desc := "(I)I" } : MethodName)) ∈ jW := List.mem_filter.mpr ⟨jw3 (List.mem_of_getElem? (i := 87) rfl), rfl⟩
theorem tw_568 : (Cond.code ({ cls := "ChargePosts", name := "worth", desc := "(I)I" } : MethodName) prog_1_method_31_code (2 : Nat) (Option.some FieldType.int)) ∈ jW := List.mem_filter.mpr ⟨jw3 (List.mem_of_getElem? (i := 88) rfl), rfl⟩
theorem tw_569 : (Cond.methodLink "ChargePosts" (233 : Nat) ({ cls := "ChargePosts", name := "lowest", desc := "(IIZ)I" } : MethodName)) ∈ jW := List.mem_filter.mpr ⟨jw3 (List.mem_of_getElem? (i := 89) rfl), rfl⟩
theorem tw_570 : (Cond.static ({ cls := "ChargePosts", name := "lowest", desc := "(IIZ)I" } : MethodName)) ∈ jW := List.mem_filter.mpr ⟨jw3 (List.mem_of_getElem? (i := 90) rfl), rfl⟩
theorem tw_571 : (Cond.code ({ cls := "ChargePosts", name := "lowest", desc := "(IIZ)I" } : MethodName) prog_1_method_42_code (4 : Nat) (Option.some FieldType.int)) ∈ jW := List.mem_filter.mpr ⟨jw3 (List.mem_of_getElem? (i := 91) rfl), rfl⟩
theorem tw_572 : (Cond.methodLink "ChargePosts" (249 : Nat) ({ cls := "java/lang/Math", name := "abs", desc := "(I)I" } : MethodName)) ∈ jW := List.mem_filter.mpr ⟨jw3 (List.mem_of_getElem? (i := 92) rfl), rfl⟩
theorem tw_573 : (Cond.static ({ cls := "java/lang/Math", name := "abs", desc := "(I)I" } : MethodName)) ∈ jW := List.mem_filter.mpr ⟨jw3 (List.mem_of_getElem? (i := 93) rfl), rfl⟩
theorem tw_574 : (Cond.code ({ cls := "java/lang/Math", name := "abs", desc := "(I)I" } : MethodName) prog_11_method_59_code (1 : Nat) (Option.some FieldType.int)) ∈ jW := List.mem_filter.mpr ⟨jw3 (List.mem_of_getElem? (i := 94) rfl), rfl⟩
theorem tw_575 : (Cond.methodLink "ChargePosts" (252 : Nat) ({ cls := "ChargePosts", name := "greatestDivisor", desc := "(II)I" } : MethodName)) ∈ jW := List.mem_filter.mpr ⟨jw3 (List.mem_of_getElem? (i := 95) rfl), rfl⟩
theorem tw_576 : (Cond.static ({ cls := "ChargePosts", name := "greatestDivisor", desc := "(II)I" } : MethodName)) ∈ jW := List.mem_filter.mpr ⟨jw3 (List.mem_of_getElem? (i := 96) rfl), rfl⟩
theorem tw_577 : (Cond.code ({ cls := "ChargePosts", name := "greatestDivisor", desc := "(II)I" } : MethodName) prog_1_method_43_code (6 : Nat) (Option.some FieldType.int)) ∈ jW := List.mem_filter.mpr ⟨jw3 (List.mem_of_getElem? (i := 97) rfl), rfl⟩
theorem tw_578 : (Cond.methodLink "ChargePostsLaw" (115 : Nat) ({ cls := "ChargePosts", name := "chance", desc := "(IIZ)I" } : MethodName)) ∈ jW := List.mem_filter.mpr ⟨jw3 (List.mem_of_getElem? (i := 98) rfl), rfl⟩
theorem tw_579 : (Cond.instanceMethod ({ cls := "ChargePosts", name := "chance", desc := "(IIZ)I" } : MethodName)) ∈ jW := List.mem_filter.mpr ⟨jw3 (List.mem_of_getElem? (i := 99) rfl), rfl⟩
theorem tw_580 : (Cond.selects "ChargePosts" ({ cls := "ChargePosts", name := "chance", desc := "(IIZ)I" } : MethodName) ({ cls := "ChargePosts", name := "chance", desc := "(IIZ)I" } : MethodName)) ∈ jW := List.mem_filter.mpr ⟨jw3 (List.mem_of_getElem? (i := 100) rfl), rfl⟩
theorem tw_581 : (Cond.code ({ cls := "ChargePosts", name := "chance", desc := "(IIZ)I" } : MethodName) prog_1_method_32_code (7 : Nat) (Option.some FieldType.int)) ∈ jW := List.mem_filter.mpr ⟨jw3 (List.mem_of_getElem? (i := 101) rfl), rfl⟩
theorem tw_582 : (Cond.methodLink "ChargePostsLaw" (122 : Nat) ({ cls := "ChargePosts", name := "seed", desc := "(J)J" } : MethodName)) ∈ jW := List.mem_filter.mpr ⟨jw3 (List.mem_of_getElem? (i := 102) rfl), rfl⟩
theorem tw_583 : (Cond.instanceMethod ({ cls := "ChargePosts", name := "seed", desc := "(J)J" } : MethodName)) ∈ jW := List.mem_filter.mpr ⟨jw3 (List.mem_of_getElem? (i := 103) rfl), rfl⟩
theorem tw_584 : (Cond.selects "ChargePosts" ({ cls := "ChargePosts", name := "seed", desc := "(J)J" } : MethodName) ({ cls := "ChargePosts", name := "seed", desc := "(J)J" } : MethodName)) ∈ jW := List.mem_filter.mpr ⟨jw3 (List.mem_of_getElem? (i := 104) rfl), rfl⟩
theorem tw_585 : (Cond.code ({ cls := "ChargePosts", name := "seed", desc := "(J)J" } : MethodName) prog_1_method_33_code (5 : Nat) (Option.some FieldType.long)) ∈ jW := List.mem_filter.mpr ⟨jw3 (List.mem_of_getElem? (i := 105) rfl), rfl⟩
theorem tw_586 : (Cond.methodLink "ChargePostsLaw" (127 : Nat) ({ cls := "ChargePosts", name := "drawn", desc := "(I)I" } : MethodName)) ∈ jW := List.mem_filter.mpr ⟨jw3 (List.mem_of_getElem? (i := 106) rfl), rfl⟩
theorem tw_587 : (Cond.instanceMethod ({ cls := "ChargePosts", name := "drawn", desc := "(I)I" } : MethodName)) ∈ jW := List.mem_filter.mpr ⟨jw3 (List.mem_of_getElem? (i := 107) rfl), rfl⟩
theorem tw_588 : (Cond.selects "ChargePosts" ({ cls := "ChargePosts", name := "drawn", desc := "(I)I" } : MethodName) ({ cls := "ChargePosts", name := "drawn", desc := "(I)I" } : MethodName)) ∈ jW := List.mem_filter.mpr ⟨jw3 (List.mem_of_getElem? (i := 108) rfl), rfl⟩
theorem tw_589 : (Cond.code ({ cls := "ChargePosts", name := "drawn", desc := "(I)I" } : MethodName) prog_1_method_34_code (4 : Nat) (Option.some FieldType.int)) ∈ jW := List.mem_filter.mpr ⟨jw3 (List.mem_of_getElem? (i := 109) rfl), rfl⟩
theorem tw_590 : (Cond.constantLong "ChargePosts" (241 : Nat) (6364136223846793005 : Int64)) ∈ jW := List.mem_filter.mpr ⟨jw3 (List.mem_of_getElem? (i := 110) rfl), rfl⟩
theorem tw_591 : (Cond.constantLong "ChargePosts" (243 : Nat) (1442695040888963407 : Int64)) ∈ jW := List.mem_filter.mpr ⟨jw3 (List.mem_of_getElem? (i := 111) rfl), rfl⟩
theorem tw_592 : (Cond.methodLink "ChargePosts" (245 : Nat) ({ cls := "ChargePosts", name := "tryStep", desc := "(I)V" } : MethodName)) ∈ jW := List.mem_filter.mpr ⟨jw3 (List.mem_of_getElem? (i := 112) rfl), rfl⟩
theorem tw_594 : (Cond.instanceMethod ({ cls := "ChargePosts", name := "tryStep", desc := "(I)V" } : MethodName)) ∈ jW := List.mem_filter.mpr ⟨jw3 (List.mem_of_getElem? (i := 114) rfl), rfl⟩
theorem tw_595 : (Cond.code ({ cls := "ChargePosts", name := "tryStep", desc := "(I)V" } : MethodName) prog_1_method_35_code (3 : Nat) (Option.none : Option FieldType)) ∈ jW := List.mem_filter.mpr ⟨jw3 (List.mem_of_getElem? (i := 115) rfl), rfl⟩
theorem tw_596 : (Cond.methodLink "ChargePostsLaw" (131 : Nat) ({ cls := "ChargePosts", name := "keep", desc := "(I)I" } : MethodName)) ∈ jW := List.mem_filter.mpr ⟨jw3 (List.mem_of_getElem? (i := 116) rfl), rfl⟩
theorem tw_597 : (Cond.instanceMethod ({ cls := "ChargePosts", name := "keep", desc := "(I)I" } : MethodName)) ∈ jW := List.mem_filter.mpr ⟨jw3 (List.mem_of_getElem? (i := 117) rfl), rfl⟩
theorem tw_598 : (Cond.selects "ChargePosts" ({ cls := "ChargePosts", name := "keep", desc := "(I)I" } : MethodName) ({ cls := "ChargePosts", name := "keep", desc := "(I)I" } : MethodName)) ∈ jW := List.mem_filter.mpr ⟨jw3 (List.mem_of_getElem? (i := 118) rfl), rfl⟩
theorem tw_599 : (Cond.code ({ cls := "ChargePosts", name := "keep", desc := "(I)I" } : MethodName) prog_1_method_36_code (2 : Nat) (Option.some FieldType.int)) ∈ jW := List.mem_filter.mpr ⟨jw3 (List.mem_of_getElem? (i := 119) rfl), rfl⟩
theorem tw_600 : (Cond.methodLink "ChargePostsLaw" (135 : Nat) ({ cls := "ChargePosts", name := "again", desc := "(I)I" } : MethodName)) ∈ jW := List.mem_filter.mpr ⟨jw3 (List.mem_of_getElem? (i := 120) rfl), rfl⟩
theorem tw_601 : (Cond.instanceMethod ({ cls := "ChargePosts", name := "again", desc := "(I)I" } : MethodName)) ∈ jW := List.mem_filter.mpr ⟨jw3 (List.mem_of_getElem? (i := 121) rfl), rfl⟩
theorem tw_602 : (Cond.selects "ChargePosts" ({ cls := "ChargePosts", name := "again", desc := "(I)I" } : MethodName) ({ cls := "ChargePosts", name := "again", desc := "(I)I" } : MethodName)) ∈ jW := List.mem_filter.mpr ⟨jw3 (List.mem_of_getElem? (i := 122) rfl), rfl⟩
theorem tw_603 : (Cond.code ({ cls := "ChargePosts", name := "again", desc := "(I)I" } : MethodName) prog_1_method_37_code (2 : Nat) (Option.some FieldType.int)) ∈ jW := List.mem_filter.mpr ⟨jw3 (List.mem_of_getElem? (i := 123) rfl), rfl⟩
theorem tw_604 : (Cond.classLink "ChargePostsLaw" (10 : Nat) "ChargePostsModel") ∈ jW := List.mem_filter.mpr ⟨jw3 (List.mem_of_getElem? (i := 124) rfl), rfl⟩
theorem tw_605 : (Cond.instantiable "ChargePostsModel" (39 : Nat)) ∈ jW := List.mem_filter.mpr ⟨jw3 (List.mem_of_getElem? (i := 125) rfl), rfl⟩
theorem tw_606 : (Cond.methodLink "ChargePostsLaw" (12 : Nat) ({ cls := "ChargePostsModel", name := "<init>", desc := "()V" } : MethodName)) ∈ jW := List.mem_filter.mpr ⟨jw3 (List.mem_of_getElem? (i := 126) rfl), rfl⟩
theorem tw_607 : (Cond.instanceMethod ({ cls := "ChargePostsModel", name := "<init>", desc := "()V" } : MethodName)) ∈ jW := List.mem_filter.mpr ⟨jw3 (List.mem_of_getElem? (i := 127) rfl), rfl⟩
theorem tw_608 : (Cond.code ({ cls := "ChargePostsModel", name := "<init>", desc := "()V" } : MethodName) prog_9_method_1_code (1 : Nat) (Option.none : Option FieldType)) ∈ jW := List.mem_filter.mpr ⟨jw3 (List.mem_of_getElem? (i := 128) rfl), rfl⟩
theorem tw_609 : (Cond.methodLink "ChargePostsModel" (1 : Nat) ({ cls := "java/lang/Object", name := "<init>", desc := "()V" } : MethodName)) ∈ jW := List.mem_filter.mpr ⟨jw3 (List.mem_of_getElem? (i := 129) rfl), rfl⟩
theorem tw_610 : (Cond.methodLink "ChargePostsModel" (87 : Nat) ({ cls := "ChargePostsModel", name := "fresh", desc := "()V" } : MethodName)) ∈ jW := List.mem_filter.mpr ⟨jw3 (List.mem_of_getElem? (i := 130) rfl), rfl⟩
theorem tw_612 : (Cond.instanceMethod ({ cls := "ChargePostsModel", name := "fresh", desc := "()V" } : MethodName)) ∈ jW := List.mem_filter.mpr ⟨jw3 (List.mem_of_getElem? (i := 132) rfl), rfl⟩
theorem tw_613 : (Cond.code ({ cls := "ChargePostsModel", name := "fresh", desc := "()V" } : MethodName) prog_9_method_3_code (2 : Nat) (Option.none : Option FieldType)) ∈ jW := List.mem_filter.mpr ⟨jw3 (List.mem_of_getElem? (i := 133) rfl), rfl⟩
theorem tw_614 : (Cond.fieldLink "ChargePostsModel" (7 : Nat) "ChargePostsModel" "text" "[I") ∈ jW := List.mem_filter.mpr ⟨jw3 (List.mem_of_getElem? (i := 134) rfl), rfl⟩
theorem tw_615 : (Cond.fieldLink "ChargePostsModel" (100 : Nat) "ChargePostsModel" "length" "I") ∈ jW := List.mem_filter.mpr ⟨jw3 (List.mem_of_getElem? (i := 135) rfl), rfl⟩
theorem tw_616 : (Cond.fieldLink "ChargePostsModel" (90 : Nat) "ChargePostsModel" "posts" "I") ∈ jW := List.mem_filter.mpr ⟨jw3 (List.mem_of_getElem? (i := 136) rfl), rfl⟩
theorem tw_617 : (Cond.fieldLink "ChargePostsModel" (13 : Nat) "ChargePostsModel" "amps" "[I") ∈ jW := List.mem_filter.mpr ⟨jw3 (List.mem_of_getElem? (i := 137) rfl), rfl⟩
theorem tw_618 : (Cond.fieldLink "ChargePostsModel" (97 : Nat) "ChargePostsModel" "cars" "I") ∈ jW := List.mem_filter.mpr ⟨jw3 (List.mem_of_getElem? (i := 138) rfl), rfl⟩
theorem tw_619 : (Cond.fieldLink "ChargePostsModel" (16 : Nat) "ChargePostsModel" "need" "[I") ∈ jW := List.mem_filter.mpr ⟨jw3 (List.mem_of_getElem? (i := 139) rfl), rfl⟩
theorem tw_620 : (Cond.fieldLink "ChargePostsModel" (19 : Nat) "ChargePostsModel" "most" "[I") ∈ jW := List.mem_filter.mpr ⟨jw3 (List.mem_of_getElem? (i := 140) rfl), rfl⟩
theorem tw_621 : (Cond.fieldLink "ChargePostsModel" (22 : Nat) "ChargePostsModel" "rank" "[I") ∈ jW := List.mem_filter.mpr ⟨jw3 (List.mem_of_getElem? (i := 141) rfl), rfl⟩
theorem tw_622 : (Cond.fieldLink "ChargePostsModel" (25 : Nat) "ChargePostsModel" "kind" "[I") ∈ jW := List.mem_filter.mpr ⟨jw3 (List.mem_of_getElem? (i := 142) rfl), rfl⟩
theorem tw_623 : (Cond.fieldLink "ChargePostsModel" (77 : Nat) "ChargePostsModel" "patience" "I") ∈ jW := List.mem_filter.mpr ⟨jw3 (List.mem_of_getElem? (i := 143) rfl), rfl⟩
theorem tw_624 : (Cond.fieldLink "ChargePostsModel" (28 : Nat) "ChargePostsModel" "now" "[I") ∈ jW := List.mem_filter.mpr ⟨jw3 (List.mem_of_getElem? (i := 144) rfl), rfl⟩
theorem tw_625 : (Cond.fieldLink "ChargePostsModel" (31 : Nat) "ChargePostsModel" "trial" "[I") ∈ jW := List.mem_filter.mpr ⟨jw3 (List.mem_of_getElem? (i := 145) rfl), rfl⟩
theorem tw_626 : (Cond.fieldLink "ChargePostsModel" (34 : Nat) "ChargePostsModel" "diary" "[I") ∈ jW := List.mem_filter.mpr ⟨jw3 (List.mem_of_getElem? (i := 146) rfl), rfl⟩
theorem tw_627 : (Cond.fieldLink "ChargePostsModel" (135 : Nat) "ChargePostsModel" "acts" "I") ∈ jW := List.mem_filter.mpr ⟨jw3 (List.mem_of_getElem? (i := 147) rfl), rfl⟩
theorem tw_628 : (Cond.fieldLink "ChargePostsModel" (218 : Nat) "ChargePostsModel" "next" "I") ∈ jW := List.mem_filter.mpr ⟨jw3 (List.mem_of_getElem? (i := 148) rfl), rfl⟩
theorem tw_629 : (Cond.fieldLink "ChargePostsModel" (37 : Nat) "ChargePostsModel" "kept" "[I") ∈ jW := List.mem_filter.mpr ⟨jw3 (List.mem_of_getElem? (i := 149) rfl), rfl⟩
theorem tw_630 : (Cond.fieldLink "ChargePostsModel" (40 : Nat) "ChargePostsModel" "isKept" "[Z") ∈ jW := List.mem_filter.mpr ⟨jw3 (List.mem_of_getElem? (i := 150) rfl), rfl⟩
theorem tw_631 : (Cond.fieldLink "ChargePostsModel" (44 : Nat) "ChargePostsModel" "seenPost" "[I") ∈ jW := List.mem_filter.mpr ⟨jw3 (List.mem_of_getElem? (i := 151) rfl), rfl⟩
theorem tw_632 : (Cond.fieldLink "ChargePostsModel" (47 : Nat) "ChargePostsModel" "seenBehind" "[I") ∈ jW := List.mem_filter.mpr ⟨jw3 (List.mem_of_getElem? (i := 152) rfl), rfl⟩
theorem tw_633 : (Cond.fieldLink "ChargePostsModel" (50 : Nat) "ChargePostsModel" "seenIs" "[I") ∈ jW := List.mem_filter.mpr ⟨jw3 (List.mem_of_getElem? (i := 153) rfl), rfl⟩
theorem tw_634 : (Cond.fieldLink "ChargePostsModel" (199 : Nat) "ChargePostsModel" "seen" "I") ∈ jW := List.mem_filter.mpr ⟨jw3 (List.mem_of_getElem? (i := 154) rfl), rfl⟩
theorem tw_635 : (Cond.fieldLink "ChargePostsModel" (280 : Nat) "ChargePostsModel" "seed" "J") ∈ jW := List.mem_filter.mpr ⟨jw3 (List.mem_of_getElem? (i := 155) rfl), rfl⟩
theorem tw_636 : (Cond.fieldLink "ChargePostsModel" (81 : Nat) "ChargePostsModel" "come" "I") ∈ jW := List.mem_filter.mpr ⟨jw3 (List.mem_of_getElem? (i := 156) rfl), rfl⟩
theorem tw_637 : (Cond.fieldLink "ChargePostsModel" (84 : Nat) "ChargePostsModel" "liar" "I") ∈ jW := List.mem_filter.mpr ⟨jw3 (List.mem_of_getElem? (i := 157) rfl), rfl⟩
theorem tw_638 : (Cond.fieldLink "ChargePostsModel" (53 : Nat) "ChargePostsModel" "order" "[I") ∈ jW := List.mem_filter.mpr ⟨jw3 (List.mem_of_getElem? (i := 158) rfl), rfl⟩
theorem tw_639 : (Cond.fieldLink "ChargePostsModel" (153 : Nat) "ChargePostsModel" "ordered" "I") ∈ jW := List.mem_filter.mpr ⟨jw3 (List.mem_of_getElem? (i := 159) rfl), rfl⟩
theorem tw_640 : (Cond.fieldLink "ChargePostsModel" (56 : Nat) "ChargePostsModel" "given" "[I") ∈ jW := List.mem_filter.mpr ⟨jw3 (List.mem_of_getElem? (i := 160) rfl), rfl⟩
theorem tw_641 : (Cond.fieldLink "ChargePostsModel" (59 : Nat) "ChargePostsModel" "worth" "[I") ∈ jW := List.mem_filter.mpr ⟨jw3 (List.mem_of_getElem? (i := 161) rfl), rfl⟩
theorem tw_642 : (Cond.fieldLink "ChargePostsModel" (106 : Nat) "ChargePostsModel" "readLimit" "I") ∈ jW := List.mem_filter.mpr ⟨jw3 (List.mem_of_getElem? (i := 162) rfl), rfl⟩
theorem tw_643 : (Cond.fieldLink "ChargePostsModel" (112 : Nat) "ChargePostsModel" "readPatience" "I") ∈ jW := List.mem_filter.mpr ⟨jw3 (List.mem_of_getElem? (i := 163) rfl), rfl⟩
theorem tw_644 : (Cond.fieldLink "ChargePostsModel" (125 : Nat) "ChargePostsModel" "readPosts" "I") ∈ jW := List.mem_filter.mpr ⟨jw3 (List.mem_of_getElem? (i := 164) rfl), rfl⟩
theorem tw_645 : (Cond.fieldLink "ChargePostsModel" (62 : Nat) "ChargePostsModel" "readAmps" "[I") ∈ jW := List.mem_filter.mpr ⟨jw3 (List.mem_of_getElem? (i := 165) rfl), rfl⟩
theorem tw_646 : (Cond.fieldLink "ChargePostsModel" (115 : Nat) "ChargePostsModel" "readCars" "I") ∈ jW := List.mem_filter.mpr ⟨jw3 (List.mem_of_getElem? (i := 166) rfl), rfl⟩
theorem tw_647 : (Cond.fieldLink "ChargePostsModel" (65 : Nat) "ChargePostsModel" "readNeed" "[I") ∈ jW := List.mem_filter.mpr ⟨jw3 (List.mem_of_getElem? (i := 167) rfl), rfl⟩
theorem tw_648 : (Cond.fieldLink "ChargePostsModel" (68 : Nat) "ChargePostsModel" "readMost" "[I") ∈ jW := List.mem_filter.mpr ⟨jw3 (List.mem_of_getElem? (i := 168) rfl), rfl⟩
theorem tw_649 : (Cond.fieldLink "ChargePostsModel" (71 : Nat) "ChargePostsModel" "readRank" "[I") ∈ jW := List.mem_filter.mpr ⟨jw3 (List.mem_of_getElem? (i := 169) rfl), rfl⟩
theorem tw_650 : (Cond.fieldLink "ChargePostsModel" (74 : Nat) "ChargePostsModel" "readKind" "[I") ∈ jW := List.mem_filter.mpr ⟨jw3 (List.mem_of_getElem? (i := 170) rfl), rfl⟩
theorem tw_651 : (Cond.fieldLink "ChargePostsModel" (109 : Nat) "ChargePostsModel" "part" "I") ∈ jW := List.mem_filter.mpr ⟨jw3 (List.mem_of_getElem? (i := 171) rfl), rfl⟩
theorem tw_652 : (Cond.fieldLink "ChargePostsModel" (103 : Nat) "ChargePostsModel" "place" "I") ∈ jW := List.mem_filter.mpr ⟨jw3 (List.mem_of_getElem? (i := 172) rfl), rfl⟩
theorem tw_653 : (Cond.laysFinal "ChargePostsModel" "ChargePostsModel" "text" "[I") ∈ jW := List.mem_filter.mpr ⟨jw3 (List.mem_of_getElem? (i := 173) rfl), rfl⟩
theorem tw_655 : (Cond.lays "ChargePostsModel" "ChargePostsModel" "length" "I") ∈ jW := List.mem_filter.mpr ⟨jw3 (List.mem_of_getElem? (i := 175) rfl), rfl⟩
theorem tw_657 : (Cond.lays "ChargePostsModel" "ChargePostsModel" "posts" "I") ∈ jW := List.mem_filter.mpr ⟨jw3 (List.mem_of_getElem? (i := 177) rfl), rfl⟩
theorem tw_659 : (Cond.laysFinal "ChargePostsModel" "ChargePostsModel" "amps" "[I") ∈ jW := List.mem_filter.mpr ⟨jw3 (List.mem_of_getElem? (i := 179) rfl), rfl⟩
theorem tw_661 : (Cond.lays "ChargePostsModel" "ChargePostsModel" "cars" "I") ∈ jW := List.mem_filter.mpr ⟨jw3 (List.mem_of_getElem? (i := 181) rfl), rfl⟩
theorem tw_663 : (Cond.laysFinal "ChargePostsModel" "ChargePostsModel" "need" "[I") ∈ jW := List.mem_filter.mpr ⟨jw3 (List.mem_of_getElem? (i := 183) rfl), rfl⟩
theorem tw_665 : (Cond.laysFinal "ChargePostsModel" "ChargePostsModel" "most" "[I") ∈ jW := List.mem_filter.mpr ⟨jw3 (List.mem_of_getElem? (i := 185) rfl), rfl⟩
theorem tw_667 : (Cond.laysFinal "ChargePostsModel" "ChargePostsModel" "rank" "[I") ∈ jW := List.mem_filter.mpr ⟨jw3 (List.mem_of_getElem? (i := 187) rfl), rfl⟩
theorem tw_669 : (Cond.laysFinal "ChargePostsModel" "ChargePostsModel" "kind" "[I") ∈ jW := List.mem_filter.mpr ⟨jw3 (List.mem_of_getElem? (i := 189) rfl), rfl⟩
theorem tw_671 : (Cond.lays "ChargePostsModel" "ChargePostsModel" "patience" "I") ∈ jW := List.mem_filter.mpr ⟨jw3 (List.mem_of_getElem? (i := 191) rfl), rfl⟩
theorem tw_673 : (Cond.laysFinal "ChargePostsModel" "ChargePostsModel" "now" "[I") ∈ jW := List.mem_filter.mpr ⟨jw3 (List.mem_of_getElem? (i := 193) rfl), rfl⟩
theorem tw_675 : (Cond.laysFinal "ChargePostsModel" "ChargePostsModel" "trial" "[I") ∈ jW := List.mem_filter.mpr ⟨jw3 (List.mem_of_getElem? (i := 195) rfl), rfl⟩
theorem tw_677 : (Cond.laysFinal "ChargePostsModel" "ChargePostsModel" "diary" "[I") ∈ jW := List.mem_filter.mpr ⟨jw3 (List.mem_of_getElem? (i := 197) rfl), rfl⟩
theorem tw_679 : (Cond.lays "ChargePostsModel" "ChargePostsModel" "acts" "I") ∈ jW := List.mem_filter.mpr ⟨jw3 (List.mem_of_getElem? (i := 199) rfl), rfl⟩
theorem tw_681 : (Cond.lays "ChargePostsModel" "ChargePostsModel" "next" "I") ∈ jW := List.mem_filter.mpr ⟨jw3 (List.mem_of_getElem? (i := 201) rfl), rfl⟩
theorem tw_683 : (Cond.laysFinal "ChargePostsModel" "ChargePostsModel" "kept" "[I") ∈ jW := List.mem_filter.mpr ⟨jw3 (List.mem_of_getElem? (i := 203) rfl), rfl⟩
theorem tw_685 : (Cond.laysFinal "ChargePostsModel" "ChargePostsModel" "isKept" "[Z") ∈ jW := List.mem_filter.mpr ⟨jw3 (List.mem_of_getElem? (i := 205) rfl), rfl⟩
theorem tw_687 : (Cond.laysFinal "ChargePostsModel" "ChargePostsModel" "seenPost" "[I") ∈ jW := List.mem_filter.mpr ⟨jw3 (List.mem_of_getElem? (i := 207) rfl), rfl⟩
theorem tw_689 : (Cond.laysFinal "ChargePostsModel" "ChargePostsModel" "seenBehind" "[I") ∈ jW := List.mem_filter.mpr ⟨jw3 (List.mem_of_getElem? (i := 209) rfl), rfl⟩
theorem tw_691 : (Cond.laysFinal "ChargePostsModel" "ChargePostsModel" "seenIs" "[I") ∈ jW := List.mem_filter.mpr ⟨jw3 (List.mem_of_getElem? (i := 211) rfl), rfl⟩
theorem tw_693 : (Cond.lays "ChargePostsModel" "ChargePostsModel" "seen" "I") ∈ jW := List.mem_filter.mpr ⟨jw3 (List.mem_of_getElem? (i := 213) rfl), rfl⟩
theorem tw_695 : (Cond.lays "ChargePostsModel" "ChargePostsModel" "seed" "J") ∈ jW := List.mem_filter.mpr ⟨jw3 (List.mem_of_getElem? (i := 215) rfl), rfl⟩
theorem tw_697 : (Cond.lays "ChargePostsModel" "ChargePostsModel" "come" "I") ∈ jW := List.mem_filter.mpr ⟨jw3 (List.mem_of_getElem? (i := 217) rfl), rfl⟩
theorem tw_699 : (Cond.lays "ChargePostsModel" "ChargePostsModel" "liar" "I") ∈ jW := List.mem_filter.mpr ⟨jw3 (List.mem_of_getElem? (i := 219) rfl), rfl⟩
theorem tw_701 : (Cond.laysFinal "ChargePostsModel" "ChargePostsModel" "order" "[I") ∈ jW := List.mem_filter.mpr ⟨jw3 (List.mem_of_getElem? (i := 221) rfl), rfl⟩
theorem tw_703 : (Cond.lays "ChargePostsModel" "ChargePostsModel" "ordered" "I") ∈ jW := List.mem_filter.mpr ⟨jw3 (List.mem_of_getElem? (i := 223) rfl), rfl⟩
theorem tw_705 : (Cond.laysFinal "ChargePostsModel" "ChargePostsModel" "given" "[I") ∈ jW := List.mem_filter.mpr ⟨jw3 (List.mem_of_getElem? (i := 225) rfl), rfl⟩
theorem tw_707 : (Cond.laysFinal "ChargePostsModel" "ChargePostsModel" "worth" "[I") ∈ jW := List.mem_filter.mpr ⟨jw3 (List.mem_of_getElem? (i := 227) rfl), rfl⟩
theorem tw_709 : (Cond.lays "ChargePostsModel" "ChargePostsModel" "readLimit" "I") ∈ jW := List.mem_filter.mpr ⟨jw3 (List.mem_of_getElem? (i := 229) rfl), rfl⟩
theorem tw_711 : (Cond.lays "ChargePostsModel" "ChargePostsModel" "readPatience" "I") ∈ jW := List.mem_filter.mpr ⟨jw3 (List.mem_of_getElem? (i := 231) rfl), rfl⟩
theorem tw_713 : (Cond.lays "ChargePostsModel" "ChargePostsModel" "readPosts" "I") ∈ jW := List.mem_filter.mpr ⟨jw3 (List.mem_of_getElem? (i := 233) rfl), rfl⟩
theorem tw_715 : (Cond.laysFinal "ChargePostsModel" "ChargePostsModel" "readAmps" "[I") ∈ jW := List.mem_filter.mpr ⟨jw3 (List.mem_of_getElem? (i := 235) rfl), rfl⟩
theorem tw_717 : (Cond.lays "ChargePostsModel" "ChargePostsModel" "readCars" "I") ∈ jW := List.mem_filter.mpr ⟨jw3 (List.mem_of_getElem? (i := 237) rfl), rfl⟩
theorem tw_719 : (Cond.laysFinal "ChargePostsModel" "ChargePostsModel" "readNeed" "[I") ∈ jW := List.mem_filter.mpr ⟨jw3 (List.mem_of_getElem? (i := 239) rfl), rfl⟩
theorem tw_721 : (Cond.laysFinal "ChargePostsModel" "ChargePostsModel" "readMost" "[I") ∈ jW := List.mem_filter.mpr ⟨jw4 (List.mem_of_getElem? (i := 1) rfl), rfl⟩
theorem tw_723 : (Cond.laysFinal "ChargePostsModel" "ChargePostsModel" "readRank" "[I") ∈ jW := List.mem_filter.mpr ⟨jw4 (List.mem_of_getElem? (i := 3) rfl), rfl⟩
theorem tw_725 : (Cond.laysFinal "ChargePostsModel" "ChargePostsModel" "readKind" "[I") ∈ jW := List.mem_filter.mpr ⟨jw4 (List.mem_of_getElem? (i := 5) rfl), rfl⟩
theorem tw_727 : (Cond.lays "ChargePostsModel" "ChargePostsModel" "part" "I") ∈ jW := List.mem_filter.mpr ⟨jw4 (List.mem_of_getElem? (i := 7) rfl), rfl⟩
theorem tw_729 : (Cond.lays "ChargePostsModel" "ChargePostsModel" "place" "I") ∈ jW := List.mem_filter.mpr ⟨jw4 (List.mem_of_getElem? (i := 9) rfl), rfl⟩
theorem tw_732 : (Cond.arrayClass FieldType.boolean) ∈ jW := List.mem_filter.mpr ⟨jw4 (List.mem_of_getElem? (i := 12) rfl), rfl⟩
theorem tw_733 : (Cond.methodLink "ChargePostsLaw" (17 : Nat) ({ cls := "ChargePostsModel", name := "write", desc := "(I)I" } : MethodName)) ∈ jW := List.mem_filter.mpr ⟨jw4 (List.mem_of_getElem? (i := 13) rfl), rfl⟩
theorem tw_734 : (Cond.instanceMethod ({ cls := "ChargePostsModel", name := "write", desc := "(I)I" } : MethodName)) ∈ jW := List.mem_filter.mpr ⟨jw4 (List.mem_of_getElem? (i := 14) rfl), rfl⟩
theorem tw_735 : (Cond.selects "ChargePostsModel" ({ cls := "ChargePostsModel", name := "write", desc := "(I)I" } : MethodName) ({ cls := "ChargePostsModel", name := "write", desc := "(I)I" } : MethodName)) ∈ jW := List.mem_filter.mpr ⟨jw4 (List.mem_of_getElem? (i := 15) rfl), rfl⟩
theorem tw_736 : (Cond.code ({ cls := "ChargePostsModel", name := "write", desc := "(I)I" } : MethodName) prog_9_method_13_code (2 : Nat) (Option.some FieldType.int)) ∈ jW := List.mem_filter.mpr ⟨jw4 (List.mem_of_getElem? (i := 16) rfl), rfl⟩
theorem tw_737 : (Cond.methodLink "ChargePostsModel" (93 : Nat) ({ cls := "ChargePostsModel", name := "in", desc := "(III)Z" } : MethodName)) ∈ jW := List.mem_filter.mpr ⟨jw4 (List.mem_of_getElem? (i := 17) rfl), rfl⟩
theorem tw_738 : (Cond.static ({ cls := "ChargePostsModel", name := "in", desc := "(III)Z" } : MethodName)) ∈ jW := List.mem_filter.mpr ⟨jw4 (List.mem_of_getElem? (i := 18) rfl), rfl⟩
theorem tw_739 : (Cond.code ({ cls := "ChargePostsModel", name := "in", desc := "(III)Z" } : MethodName) prog_9_method_5_code (3 : Nat) (Option.some FieldType.boolean)) ∈ jW := List.mem_filter.mpr ⟨jw4 (List.mem_of_getElem? (i := 19) rfl), rfl⟩
theorem tw_740 : (Cond.methodLink "ChargePostsLaw" (22 : Nat) ({ cls := "ChargePostsModel", name := "wipe", desc := "()I" } : MethodName)) ∈ jW := List.mem_filter.mpr ⟨jw4 (List.mem_of_getElem? (i := 20) rfl), rfl⟩
theorem tw_741 : (Cond.instanceMethod ({ cls := "ChargePostsModel", name := "wipe", desc := "()I" } : MethodName)) ∈ jW := List.mem_filter.mpr ⟨jw4 (List.mem_of_getElem? (i := 21) rfl), rfl⟩
theorem tw_742 : (Cond.selects "ChargePostsModel" ({ cls := "ChargePostsModel", name := "wipe", desc := "()I" } : MethodName) ({ cls := "ChargePostsModel", name := "wipe", desc := "()I" } : MethodName)) ∈ jW := List.mem_filter.mpr ⟨jw4 (List.mem_of_getElem? (i := 22) rfl), rfl⟩
theorem tw_743 : (Cond.code ({ cls := "ChargePostsModel", name := "wipe", desc := "()I" } : MethodName) prog_9_method_14_code (2 : Nat) (Option.some FieldType.int)) ∈ jW := List.mem_filter.mpr ⟨jw4 (List.mem_of_getElem? (i := 23) rfl), rfl⟩
theorem tw_744 : (Cond.methodLink "ChargePostsLaw" (26 : Nat) ({ cls := "ChargePostsModel", name := "fault", desc := "()I" } : MethodName)) ∈ jW := List.mem_filter.mpr ⟨jw4 (List.mem_of_getElem? (i := 24) rfl), rfl⟩
theorem tw_745 : (Cond.instanceMethod ({ cls := "ChargePostsModel", name := "fault", desc := "()I" } : MethodName)) ∈ jW := List.mem_filter.mpr ⟨jw4 (List.mem_of_getElem? (i := 25) rfl), rfl⟩
theorem tw_746 : (Cond.selects "ChargePostsModel" ({ cls := "ChargePostsModel", name := "fault", desc := "()I" } : MethodName) ({ cls := "ChargePostsModel", name := "fault", desc := "()I" } : MethodName)) ∈ jW := List.mem_filter.mpr ⟨jw4 (List.mem_of_getElem? (i := 26) rfl), rfl⟩
theorem tw_747 : (Cond.code ({ cls := "ChargePostsModel", name := "fault", desc := "()I" } : MethodName) prog_9_method_19_code (1 : Nat) (Option.some FieldType.int)) ∈ jW := List.mem_filter.mpr ⟨jw4 (List.mem_of_getElem? (i := 27) rfl), rfl⟩
theorem tw_748 : (Cond.methodLink "ChargePostsModel" (131 : Nat) ({ cls := "ChargePostsModel", name := "readText", desc := "()I" } : MethodName)) ∈ jW := List.mem_filter.mpr ⟨jw4 (List.mem_of_getElem? (i := 28) rfl), rfl⟩
theorem tw_750 : (Cond.instanceMethod ({ cls := "ChargePostsModel", name := "readText", desc := "()I" } : MethodName)) ∈ jW := List.mem_filter.mpr ⟨jw4 (List.mem_of_getElem? (i := 30) rfl), rfl⟩
theorem tw_751 : (Cond.code ({ cls := "ChargePostsModel", name := "readText", desc := "()I" } : MethodName) prog_9_method_18_code (2 : Nat) (Option.some FieldType.int)) ∈ jW := List.mem_filter.mpr ⟨jw4 (List.mem_of_getElem? (i := 31) rfl), rfl⟩
theorem tw_752 : (Cond.methodLink "ChargePostsModel" (128 : Nat) ({ cls := "ChargePostsModel", name := "take", desc := "(I)Z" } : MethodName)) ∈ jW := List.mem_filter.mpr ⟨jw4 (List.mem_of_getElem? (i := 32) rfl), rfl⟩
theorem tw_754 : (Cond.instanceMethod ({ cls := "ChargePostsModel", name := "take", desc := "(I)Z" } : MethodName)) ∈ jW := List.mem_filter.mpr ⟨jw4 (List.mem_of_getElem? (i := 34) rfl), rfl⟩
theorem tw_755 : (Cond.code ({ cls := "ChargePostsModel", name := "take", desc := "(I)Z" } : MethodName) prog_9_method_17_code (3 : Nat) (Option.some FieldType.boolean)) ∈ jW := List.mem_filter.mpr ⟨jw4 (List.mem_of_getElem? (i := 35) rfl), rfl⟩
theorem tw_756 : (Cond.methodLink "ChargePostsModel" (118 : Nat) ({ cls := "ChargePostsModel", name := "takeHead", desc := "(I)Z" } : MethodName)) ∈ jW := List.mem_filter.mpr ⟨jw4 (List.mem_of_getElem? (i := 36) rfl), rfl⟩
theorem tw_758 : (Cond.instanceMethod ({ cls := "ChargePostsModel", name := "takeHead", desc := "(I)Z" } : MethodName)) ∈ jW := List.mem_filter.mpr ⟨jw4 (List.mem_of_getElem? (i := 38) rfl), rfl⟩
theorem tw_759 : (Cond.code ({ cls := "ChargePostsModel", name := "takeHead", desc := "(I)Z" } : MethodName) prog_9_method_15_code (2 : Nat) (Option.some FieldType.boolean)) ∈ jW := List.mem_filter.mpr ⟨jw4 (List.mem_of_getElem? (i := 39) rfl), rfl⟩
theorem tw_760 : (Cond.methodLink "ChargePostsModel" (122 : Nat) ({ cls := "ChargePostsModel", name := "takeOfCar", desc := "(I)Z" } : MethodName)) ∈ jW := List.mem_filter.mpr ⟨jw4 (List.mem_of_getElem? (i := 40) rfl), rfl⟩
theorem tw_762 : (Cond.instanceMethod ({ cls := "ChargePostsModel", name := "takeOfCar", desc := "(I)Z" } : MethodName)) ∈ jW := List.mem_filter.mpr ⟨jw4 (List.mem_of_getElem? (i := 42) rfl), rfl⟩
theorem tw_763 : (Cond.code ({ cls := "ChargePostsModel", name := "takeOfCar", desc := "(I)Z" } : MethodName) prog_9_method_16_code (3 : Nat) (Option.some FieldType.boolean)) ∈ jW := List.mem_filter.mpr ⟨jw4 (List.mem_of_getElem? (i := 43) rfl), rfl⟩
theorem tw_764 : (Cond.methodLink "ChargePostsLaw" (30 : Nat) ({ cls := "ChargePostsModel", name := "site", desc := "()I" } : MethodName)) ∈ jW := List.mem_filter.mpr ⟨jw4 (List.mem_of_getElem? (i := 44) rfl), rfl⟩
theorem tw_765 : (Cond.instanceMethod ({ cls := "ChargePostsModel", name := "site", desc := "()I" } : MethodName)) ∈ jW := List.mem_filter.mpr ⟨jw4 (List.mem_of_getElem? (i := 45) rfl), rfl⟩
theorem tw_766 : (Cond.selects "ChargePostsModel" ({ cls := "ChargePostsModel", name := "site", desc := "()I" } : MethodName) ({ cls := "ChargePostsModel", name := "site", desc := "()I" } : MethodName)) ∈ jW := List.mem_filter.mpr ⟨jw4 (List.mem_of_getElem? (i := 46) rfl), rfl⟩
theorem tw_767 : (Cond.code ({ cls := "ChargePostsModel", name := "site", desc := "()I" } : MethodName) prog_9_method_20_code (2 : Nat) (Option.some FieldType.int)) ∈ jW := List.mem_filter.mpr ⟨jw4 (List.mem_of_getElem? (i := 47) rfl), rfl⟩
theorem tw_768 : (Cond.methodLink "ChargePostsLaw" (34 : Nat) ({ cls := "ChargePostsModel", name := "about", desc := "(I)I" } : MethodName)) ∈ jW := List.mem_filter.mpr ⟨jw4 (List.mem_of_getElem? (i := 48) rfl), rfl⟩
theorem tw_769 : (Cond.instanceMethod ({ cls := "ChargePostsModel", name := "about", desc := "(I)I" } : MethodName)) ∈ jW := List.mem_filter.mpr ⟨jw4 (List.mem_of_getElem? (i := 49) rfl), rfl⟩
theorem tw_770 : (Cond.selects "ChargePostsModel" ({ cls := "ChargePostsModel", name := "about", desc := "(I)I" } : MethodName) ({ cls := "ChargePostsModel", name := "about", desc := "(I)I" } : MethodName)) ∈ jW := List.mem_filter.mpr ⟨jw4 (List.mem_of_getElem? (i := 50) rfl), rfl⟩
theorem tw_771 : (Cond.code ({ cls := "ChargePostsModel", name := "about", desc := "(I)I" } : MethodName) prog_9_method_38_code (2 : Nat) (Option.some FieldType.int)) ∈ jW := List.mem_filter.mpr ⟨jw4 (List.mem_of_getElem? (i := 51) rfl), rfl⟩
theorem tw_772 : (Cond.methodLink "ChargePostsModel" (189 : Nat) ({ cls := "ChargePostsModel", name := "inState", desc := "([II)I" } : MethodName)) ∈ jW := List.mem_filter.mpr ⟨jw4 (List.mem_of_getElem? (i := 52) rfl), rfl⟩
theorem tw_774 : (Cond.instanceMethod ({ cls := "ChargePostsModel", name := "inState", desc := "([II)I" } : MethodName)) ∈ jW := List.mem_filter.mpr ⟨jw4 (List.mem_of_getElem? (i := 54) rfl), rfl⟩
theorem tw_775 : (Cond.code ({ cls := "ChargePostsModel", name := "inState", desc := "([II)I" } : MethodName) prog_9_method_35_code (5 : Nat) (Option.some FieldType.int)) ∈ jW := List.mem_filter.mpr ⟨jw4 (List.mem_of_getElem? (i := 55) rfl), rfl⟩
theorem tw_776 : (Cond.methodLink "ChargePostsModel" (192 : Nat) ({ cls := "ChargePostsModel", name := "meters", desc := "([I)I" } : MethodName)) ∈ jW := List.mem_filter.mpr ⟨jw4 (List.mem_of_getElem? (i := 56) rfl), rfl⟩
theorem tw_778 : (Cond.instanceMethod ({ cls := "ChargePostsModel", name := "meters", desc := "([I)I" } : MethodName)) ∈ jW := List.mem_filter.mpr ⟨jw4 (List.mem_of_getElem? (i := 58) rfl), rfl⟩
theorem tw_779 : (Cond.code ({ cls := "ChargePostsModel", name := "meters", desc := "([I)I" } : MethodName) prog_9_method_36_code (4 : Nat) (Option.some FieldType.int)) ∈ jW := List.mem_filter.mpr ⟨jw4 (List.mem_of_getElem? (i := 59) rfl), rfl⟩
theorem tw_780 : (Cond.methodLink "ChargePostsModel" (196 : Nat) ({ cls := "ChargePostsModel", name := "left", desc := "()I" } : MethodName)) ∈ jW := List.mem_filter.mpr ⟨jw4 (List.mem_of_getElem? (i := 60) rfl), rfl⟩
theorem tw_782 : (Cond.instanceMethod ({ cls := "ChargePostsModel", name := "left", desc := "()I" } : MethodName)) ∈ jW := List.mem_filter.mpr ⟨jw4 (List.mem_of_getElem? (i := 62) rfl), rfl⟩
theorem tw_783 : (Cond.code ({ cls := "ChargePostsModel", name := "left", desc := "()I" } : MethodName) prog_9_method_37_code (3 : Nat) (Option.some FieldType.int)) ∈ jW := List.mem_filter.mpr ⟨jw4 (List.mem_of_getElem? (i := 63) rfl), rfl⟩
theorem tw_784 : (Cond.methodLink "ChargePostsLaw" (39 : Nat) ({ cls := "ChargePostsModel", name := "post", desc := "(II)I" } : MethodName)) ∈ jW := List.mem_filter.mpr ⟨jw4 (List.mem_of_getElem? (i := 64) rfl), rfl⟩
theorem tw_785 : (Cond.instanceMethod ({ cls := "ChargePostsModel", name := "post", desc := "(II)I" } : MethodName)) ∈ jW := List.mem_filter.mpr ⟨jw4 (List.mem_of_getElem? (i := 65) rfl), rfl⟩
theorem tw_786 : (Cond.selects "ChargePostsModel" ({ cls := "ChargePostsModel", name := "post", desc := "(II)I" } : MethodName) ({ cls := "ChargePostsModel", name := "post", desc := "(II)I" } : MethodName)) ∈ jW := List.mem_filter.mpr ⟨jw4 (List.mem_of_getElem? (i := 66) rfl), rfl⟩
theorem tw_787 : (Cond.code ({ cls := "ChargePostsModel", name := "post", desc := "(II)I" } : MethodName) prog_9_method_41_code (3 : Nat) (Option.some FieldType.int)) ∈ jW := List.mem_filter.mpr ⟨jw4 (List.mem_of_getElem? (i := 67) rfl), rfl⟩
theorem tw_788 : (Cond.methodLink "ChargePostsModel" (205 : Nat) ({ cls := "ChargePostsModel", name := "isPost", desc := "(I)Z" } : MethodName)) ∈ jW := List.mem_filter.mpr ⟨jw4 (List.mem_of_getElem? (i := 68) rfl), rfl⟩
theorem tw_790 : (Cond.instanceMethod ({ cls := "ChargePostsModel", name := "isPost", desc := "(I)Z" } : MethodName)) ∈ jW := List.mem_filter.mpr ⟨jw4 (List.mem_of_getElem? (i := 70) rfl), rfl⟩
theorem tw_791 : (Cond.code ({ cls := "ChargePostsModel", name := "isPost", desc := "(I)Z" } : MethodName) prog_9_method_11_code (2 : Nat) (Option.some FieldType.boolean)) ∈ jW := List.mem_filter.mpr ⟨jw4 (List.mem_of_getElem? (i := 71) rfl), rfl⟩
theorem tw_792 : (Cond.methodLink "ChargePostsModel" (208 : Nat) ({ cls := "ChargePostsModel", name := "tell", desc := "([III)I" } : MethodName)) ∈ jW := List.mem_filter.mpr ⟨jw4 (List.mem_of_getElem? (i := 72) rfl), rfl⟩
theorem tw_794 : (Cond.instanceMethod ({ cls := "ChargePostsModel", name := "tell", desc := "([III)I" } : MethodName)) ∈ jW := List.mem_filter.mpr ⟨jw4 (List.mem_of_getElem? (i := 74) rfl), rfl⟩
theorem tw_795 : (Cond.code ({ cls := "ChargePostsModel", name := "tell", desc := "([III)I" } : MethodName) prog_9_method_40_code (4 : Nat) (Option.some FieldType.int)) ∈ jW := List.mem_filter.mpr ⟨jw4 (List.mem_of_getElem? (i := 75) rfl), rfl⟩
theorem tw_796 : (Cond.methodLink "ChargePostsModel" (202 : Nat) ({ cls := "ChargePostsModel", name := "placeOf", desc := "([II)I" } : MethodName)) ∈ jW := List.mem_filter.mpr ⟨jw4 (List.mem_of_getElem? (i := 76) rfl), rfl⟩
theorem tw_798 : (Cond.instanceMethod ({ cls := "ChargePostsModel", name := "placeOf", desc := "([II)I" } : MethodName)) ∈ jW := List.mem_filter.mpr ⟨jw4 (List.mem_of_getElem? (i := 78) rfl), rfl⟩
theorem tw_799 : (Cond.code ({ cls := "ChargePostsModel", name := "placeOf", desc := "([II)I" } : MethodName) prog_9_method_39_code (5 : Nat) (Option.some FieldType.int)) ∈ jW := List.mem_filter.mpr ⟨jw4 (List.mem_of_getElem? (i := 79) rfl), rfl⟩
theorem tw_800 : (Cond.methodLink "ChargePostsModel" (176 : Nat) ({ cls := "ChargePostsModel", name := "layOrder", desc := "([I)V" } : MethodName)) ∈ jW := List.mem_filter.mpr ⟨jw4 (List.mem_of_getElem? (i := 80) rfl), rfl⟩
theorem tw_802 : (Cond.instanceMethod ({ cls := "ChargePostsModel", name := "layOrder", desc := "([I)V" } : MethodName)) ∈ jW := List.mem_filter.mpr ⟨jw4 (List.mem_of_getElem? (i := 82) rfl), rfl⟩
theorem tw_803 : (Cond.code ({ cls := "ChargePostsModel", name := "layOrder", desc := "([I)V" } : MethodName) prog_9_method_28_code (4 : Nat) (Option.none : Option FieldType)) ∈ jW := List.mem_filter.mpr ⟨jw4 (List.mem_of_getElem? (i := 83) rfl), rfl⟩
theorem tw_804 : (Cond.methodLink "ChargePostsModel" (149 : Nat) ({ cls := "ChargePostsModel", name := "has", desc := "(II)Z" } : MethodName)) ∈ jW := List.mem_filter.mpr ⟨jw4 (List.mem_of_getElem? (i := 84) rfl), rfl⟩
theorem tw_805 : (Cond.static ({ cls := "ChargePostsModel", name := "has", desc := "(II)Z" } : MethodName)) ∈ jW := List.mem_filter.mpr ⟨jw4 (List.mem_of_getElem? (i := 85) rfl), rfl⟩
theorem tw_806 : (Cond.code ({ cls := "ChargePostsModel", name := "has", desc := "(II)Z" } : MethodName) prog_9_method_6_code (2 : Nat) (Option.some FieldType.boolean)) ∈ jW := List.mem_filter.mpr ⟨jw4 (List.mem_of_getElem? (i := 86) rfl), rfl⟩
theorem tw_807 : (Cond.methodLink "ChargePostsModel" (156 : Nat) ({ cls := "ChargePostsModel", name := "isBefore", desc := "([III)Z" } : MethodName)) ∈ jW := List.mem_filter.mpr ⟨jw4 (List.mem_of_getElem? (i := 87) rfl), rfl⟩
theorem tw_809 : (Cond.instanceMethod ({ cls := "ChargePostsModel", name := "isBefore", desc := "([III)Z" } : MethodName)) ∈ jW := List.mem_filter.mpr ⟨jw4 (List.mem_of_getElem? (i := 89) rfl), rfl⟩
theorem tw_810 : (Cond.code ({ cls := "ChargePostsModel", name := "isBefore", desc := "([III)Z" } : MethodName) prog_9_method_27_code (6 : Nat) (Option.some FieldType.boolean)) ∈ jW := List.mem_filter.mpr ⟨jw4 (List.mem_of_getElem? (i := 90) rfl), rfl⟩
theorem tw_811 : (Cond.methodLink "ChargePostsLaw" (43 : Nat) ({ cls := "ChargePostsModel", name := "car", desc := "(II)I" } : MethodName)) ∈ jW := List.mem_filter.mpr ⟨jw4 (List.mem_of_getElem? (i := 91) rfl), rfl⟩
theorem tw_812 : (Cond.instanceMethod ({ cls := "ChargePostsModel", name := "car", desc := "(II)I" } : MethodName)) ∈ jW := List.mem_filter.mpr ⟨jw4 (List.mem_of_getElem? (i := 92) rfl), rfl⟩
theorem tw_813 : (Cond.selects "ChargePostsModel" ({ cls := "ChargePostsModel", name := "car", desc := "(II)I" } : MethodName) ({ cls := "ChargePostsModel", name := "car", desc := "(II)I" } : MethodName)) ∈ jW := List.mem_filter.mpr ⟨jw4 (List.mem_of_getElem? (i := 93) rfl), rfl⟩
theorem tw_814 : (Cond.code ({ cls := "ChargePostsModel", name := "car", desc := "(II)I" } : MethodName) prog_9_method_43_code (3 : Nat) (Option.some FieldType.int)) ∈ jW := List.mem_filter.mpr ⟨jw4 (List.mem_of_getElem? (i := 94) rfl), rfl⟩
theorem tw_815 : (Cond.methodLink "ChargePostsModel" (212 : Nat) ({ cls := "ChargePostsModel", name := "isCar", desc := "(I)Z" } : MethodName)) ∈ jW := List.mem_filter.mpr ⟨jw4 (List.mem_of_getElem? (i := 95) rfl), rfl⟩
theorem tw_817 : (Cond.instanceMethod ({ cls := "ChargePostsModel", name := "isCar", desc := "(I)Z" } : MethodName)) ∈ jW := List.mem_filter.mpr ⟨jw4 (List.mem_of_getElem? (i := 97) rfl), rfl⟩
theorem tw_818 : (Cond.code ({ cls := "ChargePostsModel", name := "isCar", desc := "(I)Z" } : MethodName) prog_9_method_12_code (2 : Nat) (Option.some FieldType.boolean)) ∈ jW := List.mem_filter.mpr ⟨jw4 (List.mem_of_getElem? (i := 98) rfl), rfl⟩
theorem tw_819 : (Cond.methodLink "ChargePostsModel" (215 : Nat) ({ cls := "ChargePostsModel", name := "postOf", desc := "([II)I" } : MethodName)) ∈ jW := List.mem_filter.mpr ⟨jw4 (List.mem_of_getElem? (i := 99) rfl), rfl⟩
theorem tw_820 : (Cond.static ({ cls := "ChargePostsModel", name := "postOf", desc := "([II)I" } : MethodName)) ∈ jW := List.mem_filter.mpr ⟨jw4 (List.mem_of_getElem? (i := 100) rfl), rfl⟩
theorem tw_821 : (Cond.code ({ cls := "ChargePostsModel", name := "postOf", desc := "([II)I" } : MethodName) prog_9_method_42_code (4 : Nat) (Option.some FieldType.int)) ∈ jW := List.mem_filter.mpr ⟨jw4 (List.mem_of_getElem? (i := 101) rfl), rfl⟩
theorem tw_822 : (Cond.methodLink "ChargePostsLaw" (47 : Nat) ({ cls := "ChargePostsModel", name := "minute", desc := "(I)I" } : MethodName)) ∈ jW := List.mem_filter.mpr ⟨jw4 (List.mem_of_getElem? (i := 102) rfl), rfl⟩
theorem tw_823 : (Cond.instanceMethod ({ cls := "ChargePostsModel", name := "minute", desc := "(I)I" } : MethodName)) ∈ jW := List.mem_filter.mpr ⟨jw4 (List.mem_of_getElem? (i := 103) rfl), rfl⟩
theorem tw_824 : (Cond.selects "ChargePostsModel" ({ cls := "ChargePostsModel", name := "minute", desc := "(I)I" } : MethodName) ({ cls := "ChargePostsModel", name := "minute", desc := "(I)I" } : MethodName)) ∈ jW := List.mem_filter.mpr ⟨jw4 (List.mem_of_getElem? (i := 104) rfl), rfl⟩
theorem tw_825 : (Cond.code ({ cls := "ChargePostsModel", name := "minute", desc := "(I)I" } : MethodName) prog_9_method_45_code (3 : Nat) (Option.some FieldType.int)) ∈ jW := List.mem_filter.mpr ⟨jw4 (List.mem_of_getElem? (i := 105) rfl), rfl⟩
theorem tw_826 : (Cond.methodLink "ChargePostsModel" (221 : Nat) ({ cls := "ChargePostsModel", name := "note", desc := "()V" } : MethodName)) ∈ jW := List.mem_filter.mpr ⟨jw4 (List.mem_of_getElem? (i := 106) rfl), rfl⟩
theorem tw_828 : (Cond.instanceMethod ({ cls := "ChargePostsModel", name := "note", desc := "()V" } : MethodName)) ∈ jW := List.mem_filter.mpr ⟨jw4 (List.mem_of_getElem? (i := 108) rfl), rfl⟩
theorem tw_829 : (Cond.code ({ cls := "ChargePostsModel", name := "note", desc := "()V" } : MethodName) prog_9_method_44_code (2 : Nat) (Option.none : Option FieldType)) ∈ jW := List.mem_filter.mpr ⟨jw4 (List.mem_of_getElem? (i := 109) rfl), rfl⟩
theorem tw_830 : (Cond.methodLink "ChargePostsModel" (186 : Nat) ({ cls := "ChargePostsModel", name := "minuteOn", desc := "([II)V" } : MethodName)) ∈ jW := List.mem_filter.mpr ⟨jw4 (List.mem_of_getElem? (i := 110) rfl), rfl⟩
theorem tw_832 : (Cond.instanceMethod ({ cls := "ChargePostsModel", name := "minuteOn", desc := "([II)V" } : MethodName)) ∈ jW := List.mem_filter.mpr ⟨jw4 (List.mem_of_getElem? (i := 112) rfl), rfl⟩
theorem tw_833 : (Cond.code ({ cls := "ChargePostsModel", name := "minuteOn", desc := "([II)V" } : MethodName) prog_9_method_33_code (4 : Nat) (Option.none : Option FieldType)) ∈ jW := List.mem_filter.mpr ⟨jw4 (List.mem_of_getElem? (i := 113) rfl), rfl⟩
theorem tw_834 : (Cond.methodLink "ChargePostsModel" (168 : Nat) ({ cls := "ChargePostsModel", name := "beSilent", desc := "([II)V" } : MethodName)) ∈ jW := List.mem_filter.mpr ⟨jw4 (List.mem_of_getElem? (i := 114) rfl), rfl⟩
theorem tw_836 : (Cond.instanceMethod ({ cls := "ChargePostsModel", name := "beSilent", desc := "([II)V" } : MethodName)) ∈ jW := List.mem_filter.mpr ⟨jw4 (List.mem_of_getElem? (i := 116) rfl), rfl⟩
theorem tw_837 : (Cond.code ({ cls := "ChargePostsModel", name := "beSilent", desc := "([II)V" } : MethodName) prog_9_method_25_code (4 : Nat) (Option.none : Option FieldType)) ∈ jW := List.mem_filter.mpr ⟨jw4 (List.mem_of_getElem? (i := 117) rfl), rfl⟩
theorem tw_838 : (Cond.methodLink "ChargePostsModel" (142 : Nat) ({ cls := "ChargePostsModel", name := "isLive", desc := "([II)Z" } : MethodName)) ∈ jW := List.mem_filter.mpr ⟨jw4 (List.mem_of_getElem? (i := 118) rfl), rfl⟩
theorem tw_839 : (Cond.static ({ cls := "ChargePostsModel", name := "isLive", desc := "([II)Z" } : MethodName)) ∈ jW := List.mem_filter.mpr ⟨jw4 (List.mem_of_getElem? (i := 119) rfl), rfl⟩
theorem tw_840 : (Cond.code ({ cls := "ChargePostsModel", name := "isLive", desc := "([II)Z" } : MethodName) prog_9_method_23_code (2 : Nat) (Option.some FieldType.boolean)) ∈ jW := List.mem_filter.mpr ⟨jw4 (List.mem_of_getElem? (i := 120) rfl), rfl⟩
theorem tw_841 : (Cond.methodLink "ChargePostsModel" (146 : Nat) ({ cls := "ChargePostsModel", name := "isMuteAt", desc := "([II)Z" } : MethodName)) ∈ jW := List.mem_filter.mpr ⟨jw4 (List.mem_of_getElem? (i := 121) rfl), rfl⟩
theorem tw_843 : (Cond.instanceMethod ({ cls := "ChargePostsModel", name := "isMuteAt", desc := "([II)Z" } : MethodName)) ∈ jW := List.mem_filter.mpr ⟨jw4 (List.mem_of_getElem? (i := 123) rfl), rfl⟩
theorem tw_844 : (Cond.code ({ cls := "ChargePostsModel", name := "isMuteAt", desc := "([II)Z" } : MethodName) prog_9_method_22_code (3 : Nat) (Option.some FieldType.boolean)) ∈ jW := List.mem_filter.mpr ⟨jw4 (List.mem_of_getElem? (i := 124) rfl), rfl⟩
theorem tw_845 : (Cond.methodLink "ChargePostsModel" (138 : Nat) ({ cls := "ChargePostsModel", name := "kindOf", desc := "(I)I" } : MethodName)) ∈ jW := List.mem_filter.mpr ⟨jw4 (List.mem_of_getElem? (i := 125) rfl), rfl⟩
theorem tw_847 : (Cond.instanceMethod ({ cls := "ChargePostsModel", name := "kindOf", desc := "(I)I" } : MethodName)) ∈ jW := List.mem_filter.mpr ⟨jw4 (List.mem_of_getElem? (i := 127) rfl), rfl⟩
theorem tw_848 : (Cond.code ({ cls := "ChargePostsModel", name := "kindOf", desc := "(I)I" } : MethodName) prog_9_method_21_code (2 : Nat) (Option.some FieldType.int)) ∈ jW := List.mem_filter.mpr ⟨jw4 (List.mem_of_getElem? (i := 128) rfl), rfl⟩
theorem tw_849 : (Cond.methodLink "ChargePostsModel" (172 : Nat) ({ cls := "ChargePostsModel", name := "goOn", desc := "([I)V" } : MethodName)) ∈ jW := List.mem_filter.mpr ⟨jw4 (List.mem_of_getElem? (i := 129) rfl), rfl⟩
theorem tw_851 : (Cond.instanceMethod ({ cls := "ChargePostsModel", name := "goOn", desc := "([I)V" } : MethodName)) ∈ jW := List.mem_filter.mpr ⟨jw4 (List.mem_of_getElem? (i := 131) rfl), rfl⟩
theorem tw_852 : (Cond.code ({ cls := "ChargePostsModel", name := "goOn", desc := "([I)V" } : MethodName) prog_9_method_26_code (4 : Nat) (Option.none : Option FieldType)) ∈ jW := List.mem_filter.mpr ⟨jw4 (List.mem_of_getElem? (i := 132) rfl), rfl⟩
theorem tw_853 : (Cond.methodLink "ChargePostsModel" (179 : Nat) ({ cls := "ChargePostsModel", name := "give", desc := "([I)V" } : MethodName)) ∈ jW := List.mem_filter.mpr ⟨jw4 (List.mem_of_getElem? (i := 133) rfl), rfl⟩
theorem tw_855 : (Cond.instanceMethod ({ cls := "ChargePostsModel", name := "give", desc := "([I)V" } : MethodName)) ∈ jW := List.mem_filter.mpr ⟨jw4 (List.mem_of_getElem? (i := 135) rfl), rfl⟩
theorem tw_856 : (Cond.code ({ cls := "ChargePostsModel", name := "give", desc := "([I)V" } : MethodName) prog_9_method_30_code (5 : Nat) (Option.none : Option FieldType)) ∈ jW := List.mem_filter.mpr ⟨jw4 (List.mem_of_getElem? (i := 136) rfl), rfl⟩
theorem tw_857 : (Cond.methodLink "ChargePostsModel" (160 : Nat) ({ cls := "ChargePostsModel", name := "capOf", desc := "([II)I" } : MethodName)) ∈ jW := List.mem_filter.mpr ⟨jw4 (List.mem_of_getElem? (i := 137) rfl), rfl⟩
theorem tw_859 : (Cond.instanceMethod ({ cls := "ChargePostsModel", name := "capOf", desc := "([II)I" } : MethodName)) ∈ jW := List.mem_filter.mpr ⟨jw4 (List.mem_of_getElem? (i := 139) rfl), rfl⟩
theorem tw_860 : (Cond.code ({ cls := "ChargePostsModel", name := "capOf", desc := "([II)I" } : MethodName) prog_9_method_29_code (5 : Nat) (Option.some FieldType.int)) ∈ jW := List.mem_filter.mpr ⟨jw4 (List.mem_of_getElem? (i := 140) rfl), rfl⟩
theorem tw_861 : (Cond.methodLink "ChargePostsModel" (182 : Nat) ({ cls := "ChargePostsModel", name := "draw", desc := "([III)V" } : MethodName)) ∈ jW := List.mem_filter.mpr ⟨jw4 (List.mem_of_getElem? (i := 141) rfl), rfl⟩
theorem tw_863 : (Cond.instanceMethod ({ cls := "ChargePostsModel", name := "draw", desc := "([III)V" } : MethodName)) ∈ jW := List.mem_filter.mpr ⟨jw4 (List.mem_of_getElem? (i := 143) rfl), rfl⟩
theorem tw_864 : (Cond.code ({ cls := "ChargePostsModel", name := "draw", desc := "([III)V" } : MethodName) prog_9_method_32_code (6 : Nat) (Option.none : Option FieldType)) ∈ jW := List.mem_filter.mpr ⟨jw4 (List.mem_of_getElem? (i := 144) rfl), rfl⟩
theorem tw_865 : (Cond.methodLink "ChargePostsModel" (164 : Nat) ({ cls := "ChargePostsModel", name := "signedBy", desc := "(III)I" } : MethodName)) ∈ jW := List.mem_filter.mpr ⟨jw4 (List.mem_of_getElem? (i := 145) rfl), rfl⟩
theorem tw_866 : (Cond.static ({ cls := "ChargePostsModel", name := "signedBy", desc := "(III)I" } : MethodName)) ∈ jW := List.mem_filter.mpr ⟨jw4 (List.mem_of_getElem? (i := 146) rfl), rfl⟩
theorem tw_867 : (Cond.code ({ cls := "ChargePostsModel", name := "signedBy", desc := "(III)I" } : MethodName) prog_9_method_31_code (3 : Nat) (Option.some FieldType.int)) ∈ jW := List.mem_filter.mpr ⟨jw4 (List.mem_of_getElem? (i := 147) rfl), rfl⟩
theorem tw_868 : (Cond.methodLink "ChargePostsLaw" (51 : Nat) ({ cls := "ChargePostsModel", name := "plug", desc := "(II)I" } : MethodName)) ∈ jW := List.mem_filter.mpr ⟨jw4 (List.mem_of_getElem? (i := 148) rfl), rfl⟩
theorem tw_869 : (Cond.instanceMethod ({ cls := "ChargePostsModel", name := "plug", desc := "(II)I" } : MethodName)) ∈ jW := List.mem_filter.mpr ⟨jw4 (List.mem_of_getElem? (i := 149) rfl), rfl⟩
theorem tw_870 : (Cond.selects "ChargePostsModel" ({ cls := "ChargePostsModel", name := "plug", desc := "(II)I" } : MethodName) ({ cls := "ChargePostsModel", name := "plug", desc := "(II)I" } : MethodName)) ∈ jW := List.mem_filter.mpr ⟨jw4 (List.mem_of_getElem? (i := 150) rfl), rfl⟩
theorem tw_871 : (Cond.code ({ cls := "ChargePostsModel", name := "plug", desc := "(II)I" } : MethodName) prog_9_method_48_code (5 : Nat) (Option.some FieldType.int)) ∈ jW := List.mem_filter.mpr ⟨jw4 (List.mem_of_getElem? (i := 151) rfl), rfl⟩
theorem tw_872 : (Cond.methodLink "ChargePostsModel" (227 : Nat) ({ cls := "ChargePostsModel", name := "mayPlug", desc := "([III)Z" } : MethodName)) ∈ jW := List.mem_filter.mpr ⟨jw4 (List.mem_of_getElem? (i := 152) rfl), rfl⟩
theorem tw_874 : (Cond.instanceMethod ({ cls := "ChargePostsModel", name := "mayPlug", desc := "([III)Z" } : MethodName)) ∈ jW := List.mem_filter.mpr ⟨jw4 (List.mem_of_getElem? (i := 154) rfl), rfl⟩
theorem tw_875 : (Cond.code ({ cls := "ChargePostsModel", name := "mayPlug", desc := "([III)Z" } : MethodName) prog_9_method_46_code (4 : Nat) (Option.some FieldType.boolean)) ∈ jW := List.mem_filter.mpr ⟨jw4 (List.mem_of_getElem? (i := 155) rfl), rfl⟩
theorem tw_876 : (Cond.methodLink "ChargePostsModel" (230 : Nat) ({ cls := "ChargePostsModel", name := "plugOn", desc := "([III)V" } : MethodName)) ∈ jW := List.mem_filter.mpr ⟨jw4 (List.mem_of_getElem? (i := 156) rfl), rfl⟩
theorem tw_878 : (Cond.instanceMethod ({ cls := "ChargePostsModel", name := "plugOn", desc := "([III)V" } : MethodName)) ∈ jW := List.mem_filter.mpr ⟨jw4 (List.mem_of_getElem? (i := 158) rfl), rfl⟩
theorem tw_879 : (Cond.code ({ cls := "ChargePostsModel", name := "plugOn", desc := "([III)V" } : MethodName) prog_9_method_47_code (4 : Nat) (Option.none : Option FieldType)) ∈ jW := List.mem_filter.mpr ⟨jw4 (List.mem_of_getElem? (i := 159) rfl), rfl⟩
theorem tw_880 : (Cond.methodLink "ChargePostsModel" (224 : Nat) ({ cls := "ChargePostsModel", name := "clearAt", desc := "([III)V" } : MethodName)) ∈ jW := List.mem_filter.mpr ⟨jw4 (List.mem_of_getElem? (i := 160) rfl), rfl⟩
theorem tw_882 : (Cond.instanceMethod ({ cls := "ChargePostsModel", name := "clearAt", desc := "([III)V" } : MethodName)) ∈ jW := List.mem_filter.mpr ⟨jw4 (List.mem_of_getElem? (i := 162) rfl), rfl⟩
theorem tw_883 : (Cond.code ({ cls := "ChargePostsModel", name := "clearAt", desc := "([III)V" } : MethodName) prog_9_method_24_code (4 : Nat) (Option.none : Option FieldType)) ∈ jW := List.mem_filter.mpr ⟨jw4 (List.mem_of_getElem? (i := 163) rfl), rfl⟩
theorem tw_884 : (Cond.methodLink "ChargePostsLaw" (55 : Nat) ({ cls := "ChargePostsModel", name := "pull", desc := "(I)I" } : MethodName)) ∈ jW := List.mem_filter.mpr ⟨jw4 (List.mem_of_getElem? (i := 164) rfl), rfl⟩
theorem tw_885 : (Cond.instanceMethod ({ cls := "ChargePostsModel", name := "pull", desc := "(I)I" } : MethodName)) ∈ jW := List.mem_filter.mpr ⟨jw4 (List.mem_of_getElem? (i := 165) rfl), rfl⟩
theorem tw_886 : (Cond.selects "ChargePostsModel" ({ cls := "ChargePostsModel", name := "pull", desc := "(I)I" } : MethodName) ({ cls := "ChargePostsModel", name := "pull", desc := "(I)I" } : MethodName)) ∈ jW := List.mem_filter.mpr ⟨jw4 (List.mem_of_getElem? (i := 166) rfl), rfl⟩
theorem tw_887 : (Cond.code ({ cls := "ChargePostsModel", name := "pull", desc := "(I)I" } : MethodName) prog_9_method_50_code (3 : Nat) (Option.some FieldType.int)) ∈ jW := List.mem_filter.mpr ⟨jw4 (List.mem_of_getElem? (i := 167) rfl), rfl⟩
theorem tw_888 : (Cond.methodLink "ChargePostsModel" (233 : Nat) ({ cls := "ChargePostsModel", name := "pullOn", desc := "([II)V" } : MethodName)) ∈ jW := List.mem_filter.mpr ⟨jw4 (List.mem_of_getElem? (i := 168) rfl), rfl⟩
theorem tw_890 : (Cond.instanceMethod ({ cls := "ChargePostsModel", name := "pullOn", desc := "([II)V" } : MethodName)) ∈ jW := List.mem_filter.mpr ⟨jw4 (List.mem_of_getElem? (i := 170) rfl), rfl⟩
theorem tw_891 : (Cond.code ({ cls := "ChargePostsModel", name := "pullOn", desc := "([II)V" } : MethodName) prog_9_method_49_code (3 : Nat) (Option.none : Option FieldType)) ∈ jW := List.mem_filter.mpr ⟨jw4 (List.mem_of_getElem? (i := 171) rfl), rfl⟩
theorem tw_892 : (Cond.methodLink "ChargePostsLaw" (59 : Nat) ({ cls := "ChargePostsModel", name := "say", desc := "(II)I" } : MethodName)) ∈ jW := List.mem_filter.mpr ⟨jw4 (List.mem_of_getElem? (i := 172) rfl), rfl⟩
theorem tw_893 : (Cond.instanceMethod ({ cls := "ChargePostsModel", name := "say", desc := "(II)I" } : MethodName)) ∈ jW := List.mem_filter.mpr ⟨jw4 (List.mem_of_getElem? (i := 173) rfl), rfl⟩
theorem tw_894 : (Cond.selects "ChargePostsModel" ({ cls := "ChargePostsModel", name := "say", desc := "(II)I" } : MethodName) ({ cls := "ChargePostsModel", name := "say", desc := "(II)I" } : MethodName)) ∈ jW := List.mem_filter.mpr ⟨jw4 (List.mem_of_getElem? (i := 174) rfl), rfl⟩
theorem tw_895 : (Cond.code ({ cls := "ChargePostsModel", name := "say", desc := "(II)I" } : MethodName) prog_9_method_53_code (3 : Nat) (Option.some FieldType.int)) ∈ jW := List.mem_filter.mpr ⟨jw4 (List.mem_of_getElem? (i := 175) rfl), rfl⟩
theorem tw_896 : (Cond.methodLink "ChargePostsModel" (236 : Nat) ({ cls := "ChargePostsModel", name := "maySay", desc := "([II)Z" } : MethodName)) ∈ jW := List.mem_filter.mpr ⟨jw4 (List.mem_of_getElem? (i := 176) rfl), rfl⟩
theorem tw_898 : (Cond.instanceMethod ({ cls := "ChargePostsModel", name := "maySay", desc := "([II)Z" } : MethodName)) ∈ jW := List.mem_filter.mpr ⟨jw4 (List.mem_of_getElem? (i := 178) rfl), rfl⟩
theorem tw_899 : (Cond.code ({ cls := "ChargePostsModel", name := "maySay", desc := "([II)Z" } : MethodName) prog_9_method_51_code (3 : Nat) (Option.some FieldType.boolean)) ∈ jW := List.mem_filter.mpr ⟨jw4 (List.mem_of_getElem? (i := 179) rfl), rfl⟩
theorem tw_900 : (Cond.methodLink "ChargePostsModel" (239 : Nat) ({ cls := "ChargePostsModel", name := "sayOn", desc := "([III)V" } : MethodName)) ∈ jW := List.mem_filter.mpr ⟨jw4 (List.mem_of_getElem? (i := 180) rfl), rfl⟩
theorem tw_902 : (Cond.instanceMethod ({ cls := "ChargePostsModel", name := "sayOn", desc := "([III)V" } : MethodName)) ∈ jW := List.mem_filter.mpr ⟨jw4 (List.mem_of_getElem? (i := 182) rfl), rfl⟩
theorem tw_903 : (Cond.code ({ cls := "ChargePostsModel", name := "sayOn", desc := "([III)V" } : MethodName) prog_9_method_52_code (4 : Nat) (Option.none : Option FieldType)) ∈ jW := List.mem_filter.mpr ⟨jw4 (List.mem_of_getElem? (i := 183) rfl), rfl⟩
theorem tw_904 : (Cond.methodLink "ChargePostsLaw" (63 : Nat) ({ cls := "ChargePostsModel", name := "reset", desc := "(I)I" } : MethodName)) ∈ jW := List.mem_filter.mpr ⟨jw4 (List.mem_of_getElem? (i := 184) rfl), rfl⟩
theorem tw_905 : (Cond.instanceMethod ({ cls := "ChargePostsModel", name := "reset", desc := "(I)I" } : MethodName)) ∈ jW := List.mem_filter.mpr ⟨jw4 (List.mem_of_getElem? (i := 185) rfl), rfl⟩
theorem tw_906 : (Cond.selects "ChargePostsModel" ({ cls := "ChargePostsModel", name := "reset", desc := "(I)I" } : MethodName) ({ cls := "ChargePostsModel", name := "reset", desc := "(I)I" } : MethodName)) ∈ jW := List.mem_filter.mpr ⟨jw4 (List.mem_of_getElem? (i := 186) rfl), rfl⟩
theorem tw_907 : (Cond.code ({ cls := "ChargePostsModel", name := "reset", desc := "(I)I" } : MethodName) prog_9_method_54_code (2 : Nat) (Option.some FieldType.int)) ∈ jW := List.mem_filter.mpr ⟨jw4 (List.mem_of_getElem? (i := 187) rfl), rfl⟩
theorem tw_908 : (Cond.methodLink "ChargePostsModel" (242 : Nat) ({ cls := "ChargePostsModel", name := "ones", desc := "(I)I" } : MethodName)) ∈ jW := List.mem_filter.mpr ⟨jw4 (List.mem_of_getElem? (i := 188) rfl), rfl⟩
theorem tw_909 : (Cond.static ({ cls := "ChargePostsModel", name := "ones", desc := "(I)I" } : MethodName)) ∈ jW := List.mem_filter.mpr ⟨jw4 (List.mem_of_getElem? (i := 189) rfl), rfl⟩
theorem tw_910 : (Cond.code ({ cls := "ChargePostsModel", name := "ones", desc := "(I)I" } : MethodName) prog_9_method_7_code (3 : Nat) (Option.some FieldType.int)) ∈ jW := List.mem_filter.mpr ⟨jw4 (List.mem_of_getElem? (i := 190) rfl), rfl⟩
theorem tw_911 : (Cond.methodLink "ChargePostsLaw" (67 : Nat) ({ cls := "ChargePostsModel", name := "limit", desc := "(I)I" } : MethodName)) ∈ jW := List.mem_filter.mpr ⟨jw4 (List.mem_of_getElem? (i := 191) rfl), rfl⟩
theorem tw_912 : (Cond.instanceMethod ({ cls := "ChargePostsModel", name := "limit", desc := "(I)I" } : MethodName)) ∈ jW := List.mem_filter.mpr ⟨jw4 (List.mem_of_getElem? (i := 192) rfl), rfl⟩
theorem tw_913 : (Cond.selects "ChargePostsModel" ({ cls := "ChargePostsModel", name := "limit", desc := "(I)I" } : MethodName) ({ cls := "ChargePostsModel", name := "limit", desc := "(I)I" } : MethodName)) ∈ jW := List.mem_filter.mpr ⟨jw4 (List.mem_of_getElem? (i := 193) rfl), rfl⟩
theorem tw_914 : (Cond.code ({ cls := "ChargePostsModel", name := "limit", desc := "(I)I" } : MethodName) prog_9_method_55_code (3 : Nat) (Option.some FieldType.int)) ∈ jW := List.mem_filter.mpr ⟨jw4 (List.mem_of_getElem? (i := 194) rfl), rfl⟩
theorem tw_915 : (Cond.methodLink "ChargePostsLaw" (71 : Nat) ({ cls := "ChargePostsModel", name := "undo", desc := "()I" } : MethodName)) ∈ jW := List.mem_filter.mpr ⟨jw4 (List.mem_of_getElem? (i := 195) rfl), rfl⟩
theorem tw_916 : (Cond.instanceMethod ({ cls := "ChargePostsModel", name := "undo", desc := "()I" } : MethodName)) ∈ jW := List.mem_filter.mpr ⟨jw4 (List.mem_of_getElem? (i := 196) rfl), rfl⟩
theorem tw_917 : (Cond.selects "ChargePostsModel" ({ cls := "ChargePostsModel", name := "undo", desc := "()I" } : MethodName) ({ cls := "ChargePostsModel", name := "undo", desc := "()I" } : MethodName)) ∈ jW := List.mem_filter.mpr ⟨jw4 (List.mem_of_getElem? (i := 197) rfl), rfl⟩
theorem tw_918 : (Cond.code ({ cls := "ChargePostsModel", name := "undo", desc := "()I" } : MethodName) prog_9_method_56_code (2 : Nat) (Option.some FieldType.int)) ∈ jW := List.mem_filter.mpr ⟨jw4 (List.mem_of_getElem? (i := 198) rfl), rfl⟩
theorem tw_919 : (Cond.methodLink "ChargePostsLaw" (76 : Nat) ({ cls := "ChargePostsModel", name := "ahead", desc := "(IZII)I" } : MethodName)) ∈ jW := List.mem_filter.mpr ⟨jw4 (List.mem_of_getElem? (i := 199) rfl), rfl⟩
theorem tw_920 : (Cond.instanceMethod ({ cls := "ChargePostsModel", name := "ahead", desc := "(IZII)I" } : MethodName)) ∈ jW := List.mem_filter.mpr ⟨jw4 (List.mem_of_getElem? (i := 200) rfl), rfl⟩
theorem tw_921 : (Cond.selects "ChargePostsModel" ({ cls := "ChargePostsModel", name := "ahead", desc := "(IZII)I" } : MethodName) ({ cls := "ChargePostsModel", name := "ahead", desc := "(IZII)I" } : MethodName)) ∈ jW := List.mem_filter.mpr ⟨jw4 (List.mem_of_getElem? (i := 201) rfl), rfl⟩
theorem tw_922 : (Cond.code ({ cls := "ChargePostsModel", name := "ahead", desc := "(IZII)I" } : MethodName) prog_9_method_57_code (5 : Nat) (Option.some FieldType.int)) ∈ jW := List.mem_filter.mpr ⟨jw4 (List.mem_of_getElem? (i := 202) rfl), rfl⟩
theorem tw_923 : (Cond.methodLink "ChargePostsModel" (245 : Nat) ({ cls := "ChargePostsModel", name := "copy", desc := "([I[I)V" } : MethodName)) ∈ jW := List.mem_filter.mpr ⟨jw4 (List.mem_of_getElem? (i := 203) rfl), rfl⟩
theorem tw_924 : (Cond.static ({ cls := "ChargePostsModel", name := "copy", desc := "([I[I)V" } : MethodName)) ∈ jW := List.mem_filter.mpr ⟨jw4 (List.mem_of_getElem? (i := 204) rfl), rfl⟩
theorem tw_925 : (Cond.code ({ cls := "ChargePostsModel", name := "copy", desc := "([I[I)V" } : MethodName) prog_9_method_4_code (3 : Nat) (Option.none : Option FieldType)) ∈ jW := List.mem_filter.mpr ⟨jw4 (List.mem_of_getElem? (i := 205) rfl), rfl⟩
theorem tw_926 : (Cond.methodLink "ChargePostsModel" (249 : Nat) ({ cls := "ChargePostsModel", name := "tryMinutes", desc := "(II)V" } : MethodName)) ∈ jW := List.mem_filter.mpr ⟨jw4 (List.mem_of_getElem? (i := 206) rfl), rfl⟩
theorem tw_928 : (Cond.instanceMethod ({ cls := "ChargePostsModel", name := "tryMinutes", desc := "(II)V" } : MethodName)) ∈ jW := List.mem_filter.mpr ⟨jw4 (List.mem_of_getElem? (i := 208) rfl), rfl⟩
theorem tw_929 : (Cond.code ({ cls := "ChargePostsModel", name := "tryMinutes", desc := "(II)V" } : MethodName) prog_9_method_34_code (4 : Nat) (Option.none : Option FieldType)) ∈ jW := List.mem_filter.mpr ⟨jw4 (List.mem_of_getElem? (i := 209) rfl), rfl⟩
theorem tw_930 : (Cond.methodLink "ChargePostsLaw" (80 : Nat) ({ cls := "ChargePostsModel", name := "done", desc := "(I)I" } : MethodName)) ∈ jW := List.mem_filter.mpr ⟨jw4 (List.mem_of_getElem? (i := 210) rfl), rfl⟩
theorem tw_931 : (Cond.instanceMethod ({ cls := "ChargePostsModel", name := "done", desc := "(I)I" } : MethodName)) ∈ jW := List.mem_filter.mpr ⟨jw4 (List.mem_of_getElem? (i := 211) rfl), rfl⟩
theorem tw_932 : (Cond.selects "ChargePostsModel" ({ cls := "ChargePostsModel", name := "done", desc := "(I)I" } : MethodName) ({ cls := "ChargePostsModel", name := "done", desc := "(I)I" } : MethodName)) ∈ jW := List.mem_filter.mpr ⟨jw4 (List.mem_of_getElem? (i := 212) rfl), rfl⟩
theorem tw_933 : (Cond.code ({ cls := "ChargePostsModel", name := "done", desc := "(I)I" } : MethodName) prog_9_method_58_code (3 : Nat) (Option.some FieldType.int)) ∈ jW := List.mem_filter.mpr ⟨jw4 (List.mem_of_getElem? (i := 213) rfl), rfl⟩
theorem tw_934 : (Cond.methodLink "ChargePostsLaw" (84 : Nat) ({ cls := "ChargePostsModel", name := "least", desc := "(I)I" } : MethodName)) ∈ jW := List.mem_filter.mpr ⟨jw4 (List.mem_of_getElem? (i := 214) rfl), rfl⟩
theorem tw_935 : (Cond.instanceMethod ({ cls := "ChargePostsModel", name := "least", desc := "(I)I" } : MethodName)) ∈ jW := List.mem_filter.mpr ⟨jw4 (List.mem_of_getElem? (i := 215) rfl), rfl⟩
theorem tw_936 : (Cond.selects "ChargePostsModel" ({ cls := "ChargePostsModel", name := "least", desc := "(I)I" } : MethodName) ({ cls := "ChargePostsModel", name := "least", desc := "(I)I" } : MethodName)) ∈ jW := List.mem_filter.mpr ⟨jw4 (List.mem_of_getElem? (i := 216) rfl), rfl⟩
theorem tw_937 : (Cond.code ({ cls := "ChargePostsModel", name := "least", desc := "(I)I" } : MethodName) prog_9_method_60_code (3 : Nat) (Option.some FieldType.int)) ∈ jW := List.mem_filter.mpr ⟨jw4 (List.mem_of_getElem? (i := 217) rfl), rfl⟩
theorem tw_938 : (Cond.methodLink "ChargePostsModel" (253 : Nat) ({ cls := "ChargePostsModel", name := "haveAll", desc := "()Z" } : MethodName)) ∈ jW := List.mem_filter.mpr ⟨jw4 (List.mem_of_getElem? (i := 218) rfl), rfl⟩
theorem tw_940 : (Cond.instanceMethod ({ cls := "ChargePostsModel", name := "haveAll", desc := "()Z" } : MethodName)) ∈ jW := List.mem_filter.mpr ⟨jw4 (List.mem_of_getElem? (i := 220) rfl), rfl⟩
theorem tw_941 : (Cond.code ({ cls := "ChargePostsModel", name := "haveAll", desc := "()Z" } : MethodName) prog_9_method_59_code (3 : Nat) (Option.some FieldType.boolean)) ∈ jW := List.mem_filter.mpr ⟨jw4 (List.mem_of_getElem? (i := 221) rfl), rfl⟩
theorem tw_942 : (Cond.methodLink "ChargePostsLaw" (89 : Nat) ({ cls := "ChargePostsModel", name := "signed", desc := "(III)I" } : MethodName)) ∈ jW := List.mem_filter.mpr ⟨jw4 (List.mem_of_getElem? (i := 222) rfl), rfl⟩
theorem tw_943 : (Cond.instanceMethod ({ cls := "ChargePostsModel", name := "signed", desc := "(III)I" } : MethodName)) ∈ jW := List.mem_filter.mpr ⟨jw4 (List.mem_of_getElem? (i := 223) rfl), rfl⟩
theorem tw_944 : (Cond.selects "ChargePostsModel" ({ cls := "ChargePostsModel", name := "signed", desc := "(III)I" } : MethodName) ({ cls := "ChargePostsModel", name := "signed", desc := "(III)I" } : MethodName)) ∈ jW := List.mem_filter.mpr ⟨jw4 (List.mem_of_getElem? (i := 224) rfl), rfl⟩
theorem tw_945 : (Cond.code ({ cls := "ChargePostsModel", name := "signed", desc := "(III)I" } : MethodName) prog_9_method_62_code (4 : Nat) (Option.some FieldType.int)) ∈ jW := List.mem_filter.mpr ⟨jw4 (List.mem_of_getElem? (i := 225) rfl), rfl⟩
theorem tw_946 : (Cond.methodLink "ChargePostsModel" (257 : Nat) ({ cls := "ChargePostsModel", name := "power", desc := "(II)I" } : MethodName)) ∈ jW := List.mem_filter.mpr ⟨jw4 (List.mem_of_getElem? (i := 226) rfl), rfl⟩
theorem tw_947 : (Cond.static ({ cls := "ChargePostsModel", name := "power", desc := "(II)I" } : MethodName)) ∈ jW := List.mem_filter.mpr ⟨jw4 (List.mem_of_getElem? (i := 227) rfl), rfl⟩
theorem tw_948 : (Cond.code ({ cls := "ChargePostsModel", name := "power", desc := "(II)I" } : MethodName) prog_9_method_8_code (4 : Nat) (Option.some FieldType.int)) ∈ jW := List.mem_filter.mpr ⟨jw4 (List.mem_of_getElem? (i := 228) rfl), rfl⟩
theorem tw_949 : (Cond.methodLink "ChargePostsModel" (261 : Nat) ({ cls := "ChargePostsModel", name := "signOf", desc := "(III)I" } : MethodName)) ∈ jW := List.mem_filter.mpr ⟨jw4 (List.mem_of_getElem? (i := 229) rfl), rfl⟩
theorem tw_950 : (Cond.static ({ cls := "ChargePostsModel", name := "signOf", desc := "(III)I" } : MethodName)) ∈ jW := List.mem_filter.mpr ⟨jw4 (List.mem_of_getElem? (i := 230) rfl), rfl⟩
theorem tw_951 : (Cond.code ({ cls := "ChargePostsModel", name := "signOf", desc := "(III)I" } : MethodName) prog_9_method_61_code (6 : Nat) (Option.some FieldType.int)) ∈ jW := List.mem_filter.mpr ⟨jw4 (List.mem_of_getElem? (i := 231) rfl), rfl⟩
theorem tw_952 : (Cond.methodLink "ChargePostsLaw" (93 : Nat) ({ cls := "ChargePostsModel", name := "forged", desc := "(III)I" } : MethodName)) ∈ jW := List.mem_filter.mpr ⟨jw4 (List.mem_of_getElem? (i := 232) rfl), rfl⟩
theorem tw_953 : (Cond.instanceMethod ({ cls := "ChargePostsModel", name := "forged", desc := "(III)I" } : MethodName)) ∈ jW := List.mem_filter.mpr ⟨jw4 (List.mem_of_getElem? (i := 233) rfl), rfl⟩
theorem tw_954 : (Cond.selects "ChargePostsModel" ({ cls := "ChargePostsModel", name := "forged", desc := "(III)I" } : MethodName) ({ cls := "ChargePostsModel", name := "forged", desc := "(III)I" } : MethodName)) ∈ jW := List.mem_filter.mpr ⟨jw4 (List.mem_of_getElem? (i := 234) rfl), rfl⟩
theorem tw_955 : (Cond.code ({ cls := "ChargePostsModel", name := "forged", desc := "(III)I" } : MethodName) prog_9_method_63_code (5 : Nat) (Option.some FieldType.int)) ∈ jW := List.mem_filter.mpr ⟨jw4 (List.mem_of_getElem? (i := 235) rfl), rfl⟩
theorem tw_956 : (Cond.methodLink "ChargePostsLaw" (97 : Nat) ({ cls := "ChargePostsModel", name := "judge", desc := "(II)I" } : MethodName)) ∈ jW := List.mem_filter.mpr ⟨jw4 (List.mem_of_getElem? (i := 236) rfl), rfl⟩
theorem tw_957 : (Cond.instanceMethod ({ cls := "ChargePostsModel", name := "judge", desc := "(II)I" } : MethodName)) ∈ jW := List.mem_filter.mpr ⟨jw4 (List.mem_of_getElem? (i := 237) rfl), rfl⟩
theorem tw_958 : (Cond.selects "ChargePostsModel" ({ cls := "ChargePostsModel", name := "judge", desc := "(II)I" } : MethodName) ({ cls := "ChargePostsModel", name := "judge", desc := "(II)I" } : MethodName)) ∈ jW := List.mem_filter.mpr ⟨jw4 (List.mem_of_getElem? (i := 238) rfl), rfl⟩
theorem tw_959 : (Cond.code ({ cls := "ChargePostsModel", name := "judge", desc := "(II)I" } : MethodName) prog_9_method_65_code (5 : Nat) (Option.some FieldType.int)) ∈ jW := List.mem_filter.mpr ⟨jw4 (List.mem_of_getElem? (i := 239) rfl), rfl⟩
theorem tw_960 : (Cond.methodLink "ChargePostsModel" (264 : Nat) ({ cls := "ChargePostsModel", name := "judged", desc := "(III)Z" } : MethodName)) ∈ jW := List.mem_filter.mpr ⟨jw5 (List.mem_of_getElem? (i := 0) rfl), rfl⟩
theorem tw_962 : (Cond.instanceMethod ({ cls := "ChargePostsModel", name := "judged", desc := "(III)Z" } : MethodName)) ∈ jW := List.mem_filter.mpr ⟨jw5 (List.mem_of_getElem? (i := 2) rfl), rfl⟩
theorem tw_963 : (Cond.code ({ cls := "ChargePostsModel", name := "judged", desc := "(III)Z" } : MethodName) prog_9_method_64_code (4 : Nat) (Option.some FieldType.boolean)) ∈ jW := List.mem_filter.mpr ⟨jw5 (List.mem_of_getElem? (i := 3) rfl), rfl⟩
theorem tw_964 : (Cond.methodLink "ChargePostsLaw" (101 : Nat) ({ cls := "ChargePostsModel", name := "see", desc := "(III)I" } : MethodName)) ∈ jW := List.mem_filter.mpr ⟨jw5 (List.mem_of_getElem? (i := 4) rfl), rfl⟩
theorem tw_965 : (Cond.instanceMethod ({ cls := "ChargePostsModel", name := "see", desc := "(III)I" } : MethodName)) ∈ jW := List.mem_filter.mpr ⟨jw5 (List.mem_of_getElem? (i := 5) rfl), rfl⟩
theorem tw_966 : (Cond.selects "ChargePostsModel" ({ cls := "ChargePostsModel", name := "see", desc := "(III)I" } : MethodName) ({ cls := "ChargePostsModel", name := "see", desc := "(III)I" } : MethodName)) ∈ jW := List.mem_filter.mpr ⟨jw5 (List.mem_of_getElem? (i := 6) rfl), rfl⟩
theorem tw_967 : (Cond.code ({ cls := "ChargePostsModel", name := "see", desc := "(III)I" } : MethodName) prog_9_method_66_code (4 : Nat) (Option.some FieldType.int)) ∈ jW := List.mem_filter.mpr ⟨jw5 (List.mem_of_getElem? (i := 7) rfl), rfl⟩
theorem tw_968 : (Cond.methodLink "ChargePostsLaw" (105 : Nat) ({ cls := "ChargePostsModel", name := "unsee", desc := "()I" } : MethodName)) ∈ jW := List.mem_filter.mpr ⟨jw5 (List.mem_of_getElem? (i := 8) rfl), rfl⟩
theorem tw_969 : (Cond.instanceMethod ({ cls := "ChargePostsModel", name := "unsee", desc := "()I" } : MethodName)) ∈ jW := List.mem_filter.mpr ⟨jw5 (List.mem_of_getElem? (i := 9) rfl), rfl⟩
theorem tw_970 : (Cond.selects "ChargePostsModel" ({ cls := "ChargePostsModel", name := "unsee", desc := "()I" } : MethodName) ({ cls := "ChargePostsModel", name := "unsee", desc := "()I" } : MethodName)) ∈ jW := List.mem_filter.mpr ⟨jw5 (List.mem_of_getElem? (i := 10) rfl), rfl⟩
theorem tw_971 : (Cond.code ({ cls := "ChargePostsModel", name := "unsee", desc := "()I" } : MethodName) prog_9_method_67_code (2 : Nat) (Option.some FieldType.int)) ∈ jW := List.mem_filter.mpr ⟨jw5 (List.mem_of_getElem? (i := 11) rfl), rfl⟩
theorem tw_972 : (Cond.methodLink "ChargePostsLaw" (109 : Nat) ({ cls := "ChargePostsModel", name := "which", desc := "()I" } : MethodName)) ∈ jW := List.mem_filter.mpr ⟨jw5 (List.mem_of_getElem? (i := 12) rfl), rfl⟩
theorem tw_973 : (Cond.instanceMethod ({ cls := "ChargePostsModel", name := "which", desc := "()I" } : MethodName)) ∈ jW := List.mem_filter.mpr ⟨jw5 (List.mem_of_getElem? (i := 13) rfl), rfl⟩
theorem tw_974 : (Cond.selects "ChargePostsModel" ({ cls := "ChargePostsModel", name := "which", desc := "()I" } : MethodName) ({ cls := "ChargePostsModel", name := "which", desc := "()I" } : MethodName)) ∈ jW := List.mem_filter.mpr ⟨jw5 (List.mem_of_getElem? (i := 14) rfl), rfl⟩
theorem tw_975 : (Cond.code ({ cls := "ChargePostsModel", name := "which", desc := "()I" } : MethodName) prog_9_method_69_code (5 : Nat) (Option.some FieldType.int)) ∈ jW := List.mem_filter.mpr ⟨jw5 (List.mem_of_getElem? (i := 15) rfl), rfl⟩
theorem tw_976 : (Cond.methodLink "ChargePostsModel" (267 : Nat) ({ cls := "ChargePostsModel", name := "isSoBy", desc := "(II)Z" } : MethodName)) ∈ jW := List.mem_filter.mpr ⟨jw5 (List.mem_of_getElem? (i := 16) rfl), rfl⟩
theorem tw_978 : (Cond.instanceMethod ({ cls := "ChargePostsModel", name := "isSoBy", desc := "(II)Z" } : MethodName)) ∈ jW := List.mem_filter.mpr ⟨jw5 (List.mem_of_getElem? (i := 18) rfl), rfl⟩
theorem tw_979 : (Cond.code ({ cls := "ChargePostsModel", name := "isSoBy", desc := "(II)Z" } : MethodName) prog_9_method_68_code (3 : Nat) (Option.some FieldType.boolean)) ∈ jW := List.mem_filter.mpr ⟨jw5 (List.mem_of_getElem? (i := 19) rfl), rfl⟩
theorem tw_980 : (Cond.methodLink "ChargePostsLaw" (114 : Nat) ({ cls := "ChargePostsModel", name := "share", desc := "(IZ)I" } : MethodName)) ∈ jW := List.mem_filter.mpr ⟨jw5 (List.mem_of_getElem? (i := 20) rfl), rfl⟩
theorem tw_981 : (Cond.instanceMethod ({ cls := "ChargePostsModel", name := "share", desc := "(IZ)I" } : MethodName)) ∈ jW := List.mem_filter.mpr ⟨jw5 (List.mem_of_getElem? (i := 21) rfl), rfl⟩
theorem tw_982 : (Cond.selects "ChargePostsModel" ({ cls := "ChargePostsModel", name := "share", desc := "(IZ)I" } : MethodName) ({ cls := "ChargePostsModel", name := "share", desc := "(IZ)I" } : MethodName)) ∈ jW := List.mem_filter.mpr ⟨jw5 (List.mem_of_getElem? (i := 22) rfl), rfl⟩
theorem tw_983 : (Cond.code ({ cls := "ChargePostsModel", name := "share", desc := "(IZ)I" } : MethodName) prog_9_method_71_code (6 : Nat) (Option.some FieldType.int)) ∈ jW := List.mem_filter.mpr ⟨jw5 (List.mem_of_getElem? (i := 23) rfl), rfl⟩
theorem tw_984 : (Cond.methodLink "ChargePostsModel" (270 : Nat) ({ cls := "ChargePostsModel", name := "metersBy", desc := "(I)I" } : MethodName)) ∈ jW := List.mem_filter.mpr ⟨jw5 (List.mem_of_getElem? (i := 24) rfl), rfl⟩
theorem tw_986 : (Cond.instanceMethod ({ cls := "ChargePostsModel", name := "metersBy", desc := "(I)I" } : MethodName)) ∈ jW := List.mem_filter.mpr ⟨jw5 (List.mem_of_getElem? (i := 26) rfl), rfl⟩
theorem tw_987 : (Cond.code ({ cls := "ChargePostsModel", name := "metersBy", desc := "(I)I" } : MethodName) prog_9_method_70_code (2 : Nat) (Option.some FieldType.int)) ∈ jW := List.mem_filter.mpr ⟨jw5 (List.mem_of_getElem? (i := 27) rfl), rfl⟩
theorem tw_988 : (Cond.methodLink "ChargePostsModel" (273 : Nat) ({ cls := "ChargePostsModel", name := "factorial", desc := "(I)I" } : MethodName)) ∈ jW := List.mem_filter.mpr ⟨jw5 (List.mem_of_getElem? (i := 28) rfl), rfl⟩
theorem tw_989 : (Cond.static ({ cls := "ChargePostsModel", name := "factorial", desc := "(I)I" } : MethodName)) ∈ jW := List.mem_filter.mpr ⟨jw5 (List.mem_of_getElem? (i := 29) rfl), rfl⟩
theorem tw_990 : (Cond.code ({ cls := "ChargePostsModel", name := "factorial", desc := "(I)I" } : MethodName) prog_9_method_9_code (3 : Nat) (Option.some FieldType.int)) ∈ jW := List.mem_filter.mpr ⟨jw5 (List.mem_of_getElem? (i := 30) rfl), rfl⟩
theorem tw_991 : (Cond.methodLink "ChargePostsModel" (276 : Nat) ({ cls := "ChargePostsModel", name := "fraction", desc := "(IIZ)I" } : MethodName)) ∈ jW := List.mem_filter.mpr ⟨jw5 (List.mem_of_getElem? (i := 31) rfl), rfl⟩
theorem tw_992 : (Cond.static ({ cls := "ChargePostsModel", name := "fraction", desc := "(IIZ)I" } : MethodName)) ∈ jW := List.mem_filter.mpr ⟨jw5 (List.mem_of_getElem? (i := 32) rfl), rfl⟩
theorem tw_993 : (Cond.code ({ cls := "ChargePostsModel", name := "fraction", desc := "(IIZ)I" } : MethodName) prog_9_method_10_code (6 : Nat) (Option.some FieldType.int)) ∈ jW := List.mem_filter.mpr ⟨jw5 (List.mem_of_getElem? (i := 33) rfl), rfl⟩
theorem tw_994 : (Cond.methodLink "ChargePostsLaw" (119 : Nat) ({ cls := "ChargePostsModel", name := "chance", desc := "(IIZ)I" } : MethodName)) ∈ jW := List.mem_filter.mpr ⟨jw5 (List.mem_of_getElem? (i := 34) rfl), rfl⟩
theorem tw_995 : (Cond.instanceMethod ({ cls := "ChargePostsModel", name := "chance", desc := "(IIZ)I" } : MethodName)) ∈ jW := List.mem_filter.mpr ⟨jw5 (List.mem_of_getElem? (i := 35) rfl), rfl⟩
theorem tw_996 : (Cond.selects "ChargePostsModel" ({ cls := "ChargePostsModel", name := "chance", desc := "(IIZ)I" } : MethodName) ({ cls := "ChargePostsModel", name := "chance", desc := "(IIZ)I" } : MethodName)) ∈ jW := List.mem_filter.mpr ⟨jw5 (List.mem_of_getElem? (i := 36) rfl), rfl⟩
theorem tw_997 : (Cond.code ({ cls := "ChargePostsModel", name := "chance", desc := "(IIZ)I" } : MethodName) prog_9_method_72_code (6 : Nat) (Option.some FieldType.int)) ∈ jW := List.mem_filter.mpr ⟨jw5 (List.mem_of_getElem? (i := 37) rfl), rfl⟩
theorem tw_998 : (Cond.methodLink "ChargePostsLaw" (126 : Nat) ({ cls := "ChargePostsModel", name := "seed", desc := "(J)J" } : MethodName)) ∈ jW := List.mem_filter.mpr ⟨jw5 (List.mem_of_getElem? (i := 38) rfl), rfl⟩
theorem tw_999 : (Cond.instanceMethod ({ cls := "ChargePostsModel", name := "seed", desc := "(J)J" } : MethodName)) ∈ jW := List.mem_filter.mpr ⟨jw5 (List.mem_of_getElem? (i := 39) rfl), rfl⟩
theorem tw_1000 : (Cond.selects "ChargePostsModel" ({ cls := "ChargePostsModel", name := "seed", desc := "(J)J" } : MethodName) ({ cls := "ChargePostsModel", name := "seed", desc := "(J)J" } : MethodName)) ∈ jW := List.mem_filter.mpr ⟨jw5 (List.mem_of_getElem? (i := 40) rfl), rfl⟩
theorem tw_1001 : (Cond.code ({ cls := "ChargePostsModel", name := "seed", desc := "(J)J" } : MethodName) prog_9_method_73_code (5 : Nat) (Option.some FieldType.long)) ∈ jW := List.mem_filter.mpr ⟨jw5 (List.mem_of_getElem? (i := 41) rfl), rfl⟩
theorem tw_1002 : (Cond.methodLink "ChargePostsLaw" (130 : Nat) ({ cls := "ChargePostsModel", name := "drawn", desc := "(I)I" } : MethodName)) ∈ jW := List.mem_filter.mpr ⟨jw5 (List.mem_of_getElem? (i := 42) rfl), rfl⟩
theorem tw_1003 : (Cond.instanceMethod ({ cls := "ChargePostsModel", name := "drawn", desc := "(I)I" } : MethodName)) ∈ jW := List.mem_filter.mpr ⟨jw5 (List.mem_of_getElem? (i := 43) rfl), rfl⟩
theorem tw_1004 : (Cond.selects "ChargePostsModel" ({ cls := "ChargePostsModel", name := "drawn", desc := "(I)I" } : MethodName) ({ cls := "ChargePostsModel", name := "drawn", desc := "(I)I" } : MethodName)) ∈ jW := List.mem_filter.mpr ⟨jw5 (List.mem_of_getElem? (i := 44) rfl), rfl⟩
theorem tw_1005 : (Cond.code ({ cls := "ChargePostsModel", name := "drawn", desc := "(I)I" } : MethodName) prog_9_method_74_code (7 : Nat) (Option.some FieldType.int)) ∈ jW := List.mem_filter.mpr ⟨jw5 (List.mem_of_getElem? (i := 45) rfl), rfl⟩
theorem tw_1006 : (Cond.constantLong "ChargePostsModel" (284 : Nat) (6364136223846793005 : Int64)) ∈ jW := List.mem_filter.mpr ⟨jw5 (List.mem_of_getElem? (i := 46) rfl), rfl⟩
theorem tw_1007 : (Cond.constantLong "ChargePostsModel" (286 : Nat) (1442695040888963407 : Int64)) ∈ jW := List.mem_filter.mpr ⟨jw5 (List.mem_of_getElem? (i := 47) rfl), rfl⟩
theorem tw_1008 : (Cond.methodLink "ChargePostsLaw" (134 : Nat) ({ cls := "ChargePostsModel", name := "keep", desc := "(I)I" } : MethodName)) ∈ jW := List.mem_filter.mpr ⟨jw5 (List.mem_of_getElem? (i := 48) rfl), rfl⟩
theorem tw_1009 : (Cond.instanceMethod ({ cls := "ChargePostsModel", name := "keep", desc := "(I)I" } : MethodName)) ∈ jW := List.mem_filter.mpr ⟨jw5 (List.mem_of_getElem? (i := 49) rfl), rfl⟩
theorem tw_1010 : (Cond.selects "ChargePostsModel" ({ cls := "ChargePostsModel", name := "keep", desc := "(I)I" } : MethodName) ({ cls := "ChargePostsModel", name := "keep", desc := "(I)I" } : MethodName)) ∈ jW := List.mem_filter.mpr ⟨jw5 (List.mem_of_getElem? (i := 50) rfl), rfl⟩
theorem tw_1011 : (Cond.code ({ cls := "ChargePostsModel", name := "keep", desc := "(I)I" } : MethodName) prog_9_method_75_code (3 : Nat) (Option.some FieldType.int)) ∈ jW := List.mem_filter.mpr ⟨jw5 (List.mem_of_getElem? (i := 51) rfl), rfl⟩
theorem tw_1012 : (Cond.methodLink "ChargePostsLaw" (138 : Nat) ({ cls := "ChargePostsModel", name := "again", desc := "(I)I" } : MethodName)) ∈ jW := List.mem_filter.mpr ⟨jw5 (List.mem_of_getElem? (i := 52) rfl), rfl⟩
theorem tw_1013 : (Cond.instanceMethod ({ cls := "ChargePostsModel", name := "again", desc := "(I)I" } : MethodName)) ∈ jW := List.mem_filter.mpr ⟨jw5 (List.mem_of_getElem? (i := 53) rfl), rfl⟩
theorem tw_1014 : (Cond.selects "ChargePostsModel" ({ cls := "ChargePostsModel", name := "again", desc := "(I)I" } : MethodName) ({ cls := "ChargePostsModel", name := "again", desc := "(I)I" } : MethodName)) ∈ jW := List.mem_filter.mpr ⟨jw5 (List.mem_of_getElem? (i := 54) rfl), rfl⟩
theorem tw_1015 : (Cond.code ({ cls := "ChargePostsModel", name := "again", desc := "(I)I" } : MethodName) prog_9_method_76_code (3 : Nat) (Option.some FieldType.int)) ∈ jW := List.mem_filter.mpr ⟨jw5 (List.mem_of_getElem? (i := 55) rfl), rfl⟩
theorem tw_1016 : (Cond.constantLong "ChargePostsLaw" (120 : Nat) (4294967295 : Int64)) ∈ jW := List.mem_filter.mpr ⟨jw5 (List.mem_of_getElem? (i := 56) rfl), rfl⟩
theorem tp_0 : Cond.selects "ChargePosts$Text" ⟨"ChargePosts$Text", "faultOfHead", "()I"⟩ ⟨"ChargePosts$Text", "faultOfHead", "()I"⟩ ∈ jW := jwp (q := (⟨"ChargePosts$Text", "faultOfHead", "()I"⟩, 2)) (by show _ ∈ lw_privs_1 ++ (lw_privs_2 ++ (lw_privs_3 ++ lw_privs_4)); exact List.mem_of_getElem? (i := 0) rfl)
theorem tp_1 : Cond.selects "ChargePosts$Text" ⟨"ChargePosts$Text", "isDigit", "(III)Z"⟩ ⟨"ChargePosts$Text", "isDigit", "(III)Z"⟩ ∈ jW := jwp (q := (⟨"ChargePosts$Text", "isDigit", "(III)Z"⟩, 2)) (by show _ ∈ lw_privs_1 ++ (lw_privs_2 ++ (lw_privs_3 ++ lw_privs_4)); exact List.mem_of_getElem? (i := 1) rfl)
theorem tp_2 : Cond.selects "ChargePosts$Text" ⟨"ChargePosts$Text", "faultOfCar", "(I)I"⟩ ⟨"ChargePosts$Text", "faultOfCar", "(I)I"⟩ ∈ jW := jwp (q := (⟨"ChargePosts$Text", "faultOfCar", "(I)I"⟩, 2)) (by show _ ∈ lw_privs_1 ++ (lw_privs_2 ++ (lw_privs_3 ++ lw_privs_4)); exact List.mem_of_getElem? (i := 2) rfl)
theorem tp_3 : Cond.selects "ChargePosts$Site" ⟨"ChargePosts$Site", "addPost", "(I)V"⟩ ⟨"ChargePosts$Site", "addPost", "(I)V"⟩ ∈ jW := jwp (q := (⟨"ChargePosts$Site", "addPost", "(I)V"⟩, 6)) (by show _ ∈ lw_privs_1 ++ (lw_privs_2 ++ (lw_privs_3 ++ lw_privs_4)); exact List.mem_of_getElem? (i := 3) rfl)
theorem tp_4 : Cond.selects "ChargePosts$Site" ⟨"ChargePosts$Site", "addCar", "(LChargePosts$Text;I)V"⟩ ⟨"ChargePosts$Site", "addCar", "(LChargePosts$Text;I)V"⟩ ∈ jW := jwp (q := (⟨"ChargePosts$Site", "addCar", "(LChargePosts$Text;I)V"⟩, 6)) (by show _ ∈ lw_privs_1 ++ (lw_privs_2 ++ (lw_privs_3 ++ lw_privs_4)); exact List.mem_of_getElem? (i := 4) rfl)
theorem tp_5 : Cond.selects "ChargePosts$Feed" ⟨"ChargePosts$Feed", "indexOf", "(LChargePosts$State;I)I"⟩ ⟨"ChargePosts$Feed", "indexOf", "(LChargePosts$State;I)I"⟩ ∈ jW := jwp (q := (⟨"ChargePosts$Feed", "indexOf", "(LChargePosts$State;I)I"⟩, 3)) (by show _ ∈ lw_privs_1 ++ (lw_privs_2 ++ (lw_privs_3 ++ lw_privs_4)); exact List.mem_of_getElem? (i := 5) rfl)
theorem tp_6 : Cond.selects "ChargePosts$Feed" ⟨"ChargePosts$Feed", "arrange", "(LChargePosts$State;I)I"⟩ ⟨"ChargePosts$Feed", "arrange", "(LChargePosts$State;I)I"⟩ ∈ jW := jwp (q := (⟨"ChargePosts$Feed", "arrange", "(LChargePosts$State;I)I"⟩, 3)) (by show _ ∈ lw_privs_1 ++ (lw_privs_2 ++ (lw_privs_3 ++ lw_privs_4)); exact List.mem_of_getElem? (i := 6) rfl)
theorem tp_7 : Cond.selects "ChargePosts$Feed" ⟨"ChargePosts$Feed", "overtakes", "(LChargePosts$State;II)Z"⟩ ⟨"ChargePosts$Feed", "overtakes", "(LChargePosts$State;II)Z"⟩ ∈ jW := jwp (q := (⟨"ChargePosts$Feed", "overtakes", "(LChargePosts$State;II)Z"⟩, 3)) (by show _ ∈ lw_privs_1 ++ (lw_privs_2 ++ (lw_privs_3 ++ lw_privs_4)); exact List.mem_of_getElem? (i := 7) rfl)
theorem tp_8 : Cond.selects "ChargePosts$Feed" ⟨"ChargePosts$Feed", "growSilent", "(LChargePosts$State;II)V"⟩ ⟨"ChargePosts$Feed", "growSilent", "(LChargePosts$State;II)V"⟩ ∈ jW := jwp (q := (⟨"ChargePosts$Feed", "growSilent", "(LChargePosts$State;II)V"⟩, 3)) (by show _ ∈ lw_privs_1 ++ (lw_privs_2 ++ (lw_privs_3 ++ lw_privs_4)); exact List.mem_of_getElem? (i := 8) rfl)
theorem tp_9 : Cond.selects "ChargePosts$Feed" ⟨"ChargePosts$Feed", "kindAt", "(LChargePosts$State;II)I"⟩ ⟨"ChargePosts$Feed", "kindAt", "(LChargePosts$State;II)I"⟩ ∈ jW := jwp (q := (⟨"ChargePosts$Feed", "kindAt", "(LChargePosts$State;II)I"⟩, 3)) (by show _ ∈ lw_privs_1 ++ (lw_privs_2 ++ (lw_privs_3 ++ lw_privs_4)); exact List.mem_of_getElem? (i := 9) rfl)
theorem tp_10 : Cond.selects "ChargePosts$Feed" ⟨"ChargePosts$Feed", "changeStates", "(LChargePosts$State;I)V"⟩ ⟨"ChargePosts$Feed", "changeStates", "(LChargePosts$State;I)V"⟩ ∈ jW := jwp (q := (⟨"ChargePosts$Feed", "changeStates", "(LChargePosts$State;I)V"⟩, 3)) (by show _ ∈ lw_privs_1 ++ (lw_privs_2 ++ (lw_privs_3 ++ lw_privs_4)); exact List.mem_of_getElem? (i := 10) rfl)
theorem tp_11 : Cond.selects "ChargePosts$Feed" ⟨"ChargePosts$Feed", "growOlder", "(LChargePosts$State;II)V"⟩ ⟨"ChargePosts$Feed", "growOlder", "(LChargePosts$State;II)V"⟩ ∈ jW := jwp (q := (⟨"ChargePosts$Feed", "growOlder", "(LChargePosts$State;II)V"⟩, 3)) (by show _ ∈ lw_privs_1 ++ (lw_privs_2 ++ (lw_privs_3 ++ lw_privs_4)); exact List.mem_of_getElem? (i := 11) rfl)
theorem tp_12 : Cond.selects "ChargePosts$Feed" ⟨"ChargePosts$Feed", "give", "(LChargePosts$State;II)V"⟩ ⟨"ChargePosts$Feed", "give", "(LChargePosts$State;II)V"⟩ ∈ jW := jwp (q := (⟨"ChargePosts$Feed", "give", "(LChargePosts$State;II)V"⟩, 3)) (by show _ ∈ lw_privs_1 ++ (lw_privs_2 ++ (lw_privs_3 ++ lw_privs_4)); exact List.mem_of_getElem? (i := 12) rfl)
theorem tp_13 : Cond.selects "ChargePosts$Feed" ⟨"ChargePosts$Feed", "mostFor", "(LChargePosts$State;II)I"⟩ ⟨"ChargePosts$Feed", "mostFor", "(LChargePosts$State;II)I"⟩ ∈ jW := jwp (q := (⟨"ChargePosts$Feed", "mostFor", "(LChargePosts$State;II)I"⟩, 3)) (by show _ ∈ lw_privs_1 ++ (lw_privs_2 ++ (lw_privs_3 ++ lw_privs_4)); exact List.mem_of_getElem? (i := 13) rfl)
theorem tp_14 : Cond.selects "ChargePosts$Feed" ⟨"ChargePosts$Feed", "draw", "(LChargePosts$State;II)V"⟩ ⟨"ChargePosts$Feed", "draw", "(LChargePosts$State;II)V"⟩ ∈ jW := jwp (q := (⟨"ChargePosts$Feed", "draw", "(LChargePosts$State;II)V"⟩, 3)) (by show _ ∈ lw_privs_1 ++ (lw_privs_2 ++ (lw_privs_3 ++ lw_privs_4)); exact List.mem_of_getElem? (i := 14) rfl)
theorem tp_15 : Cond.selects "ChargePosts$Feed" ⟨"ChargePosts$Feed", "meter", "(LChargePosts$State;II)V"⟩ ⟨"ChargePosts$Feed", "meter", "(LChargePosts$State;II)V"⟩ ∈ jW := jwp (q := (⟨"ChargePosts$Feed", "meter", "(LChargePosts$State;II)V"⟩, 3)) (by show _ ∈ lw_privs_1 ++ (lw_privs_2 ++ (lw_privs_3 ++ lw_privs_4)); exact List.mem_of_getElem? (i := 15) rfl)
theorem tp_16 : Cond.selects "ChargePosts$Feed" ⟨"ChargePosts$Feed", "exceed", "(LChargePosts$State;I)V"⟩ ⟨"ChargePosts$Feed", "exceed", "(LChargePosts$State;I)V"⟩ ∈ jW := jwp (q := (⟨"ChargePosts$Feed", "exceed", "(LChargePosts$State;I)V"⟩, 3)) (by show _ ∈ lw_privs_1 ++ (lw_privs_2 ++ (lw_privs_3 ++ lw_privs_4)); exact List.mem_of_getElem? (i := 16) rfl)
theorem tp_17 : Cond.selects "ChargePosts" ⟨"ChargePosts", "settle", "(I)I"⟩ ⟨"ChargePosts", "settle", "(I)I"⟩ ∈ jW := jwp (q := (⟨"ChargePosts", "settle", "(I)I"⟩, 11)) (by show _ ∈ lw_privs_1 ++ (lw_privs_2 ++ (lw_privs_3 ++ lw_privs_4)); exact List.mem_of_getElem? (i := 17) rfl)
theorem tp_18 : Cond.selects "ChargePosts$Feed" ⟨"ChargePosts$Feed", "climb", "(LChargePosts$State;II)V"⟩ ⟨"ChargePosts$Feed", "climb", "(LChargePosts$State;II)V"⟩ ∈ jW := jwp (q := (⟨"ChargePosts$Feed", "climb", "(LChargePosts$State;II)V"⟩, 3)) (by show _ ∈ lw_privs_1 ++ (lw_privs_2 ++ (lw_privs_3 ++ lw_privs_4)); exact List.mem_of_getElem? (i := 18) rfl)
theorem tp_19 : Cond.selects "ChargePosts" ⟨"ChargePosts", "signOfRow", "(III)I"⟩ ⟨"ChargePosts", "signOfRow", "(III)I"⟩ ∈ jW := jwp (q := (⟨"ChargePosts", "signOfRow", "(III)I"⟩, 11)) (by show _ ∈ lw_privs_1 ++ (lw_privs_2 ++ (lw_privs_3 ++ lw_privs_4)); exact List.mem_of_getElem? (i := 19) rfl)
theorem tp_20 : Cond.selects "ChargePosts" ⟨"ChargePosts", "spread", "(II)V"⟩ ⟨"ChargePosts", "spread", "(II)V"⟩ ∈ jW := jwp (q := (⟨"ChargePosts", "spread", "(II)V"⟩, 11)) (by show _ ∈ lw_privs_1 ++ (lw_privs_2 ++ (lw_privs_3 ++ lw_privs_4)); exact List.mem_of_getElem? (i := 20) rfl)
theorem tp_21 : Cond.selects "ChargePosts" ⟨"ChargePosts", "holds", "(III)Z"⟩ ⟨"ChargePosts", "holds", "(III)Z"⟩ ∈ jW := jwp (q := (⟨"ChargePosts", "holds", "(III)Z"⟩, 11)) (by show _ ∈ lw_privs_1 ++ (lw_privs_2 ++ (lw_privs_3 ++ lw_privs_4)); exact List.mem_of_getElem? (i := 21) rfl)
theorem tp_22 : Cond.selects "ChargePosts" ⟨"ChargePosts", "mayLie", "(I)Z"⟩ ⟨"ChargePosts", "mayLie", "(I)Z"⟩ ∈ jW := jwp (q := (⟨"ChargePosts", "mayLie", "(I)Z"⟩, 11)) (by show _ ∈ lw_privs_1 ++ (lw_privs_2 ++ (lw_privs_3 ++ lw_privs_4)); exact List.mem_of_getElem? (i := 22) rfl)
theorem tp_23 : Cond.selects "ChargePosts" ⟨"ChargePosts", "worth", "(I)I"⟩ ⟨"ChargePosts", "worth", "(I)I"⟩ ∈ jW := jwp (q := (⟨"ChargePosts", "worth", "(I)I"⟩, 11)) (by show _ ∈ lw_privs_1 ++ (lw_privs_2 ++ (lw_privs_3 ++ lw_privs_4)); exact List.mem_of_getElem? (i := 23) rfl)
theorem tp_24 : Cond.selects "ChargePosts" ⟨"ChargePosts", "tryStep", "(I)V"⟩ ⟨"ChargePosts", "tryStep", "(I)V"⟩ ∈ jW := jwp (q := (⟨"ChargePosts", "tryStep", "(I)V"⟩, 11)) (by show _ ∈ lw_privs_1 ++ (lw_privs_2 ++ (lw_privs_3 ++ lw_privs_4)); exact List.mem_of_getElem? (i := 24) rfl)
theorem tp_25 : Cond.selects "ChargePostsModel" ⟨"ChargePostsModel", "fresh", "()V"⟩ ⟨"ChargePostsModel", "fresh", "()V"⟩ ∈ jW := jwp (q := (⟨"ChargePostsModel", "fresh", "()V"⟩, 39)) (by show _ ∈ lw_privs_1 ++ (lw_privs_2 ++ (lw_privs_3 ++ lw_privs_4)); exact List.mem_of_getElem? (i := 25) rfl)
theorem tp_26 : Cond.selects "ChargePostsModel" ⟨"ChargePostsModel", "readText", "()I"⟩ ⟨"ChargePostsModel", "readText", "()I"⟩ ∈ jW := jwp (q := (⟨"ChargePostsModel", "readText", "()I"⟩, 39)) (by show _ ∈ lw_privs_1 ++ (lw_privs_2 ++ (lw_privs_3 ++ lw_privs_4)); exact List.mem_of_getElem? (i := 26) rfl)
theorem tp_27 : Cond.selects "ChargePostsModel" ⟨"ChargePostsModel", "take", "(I)Z"⟩ ⟨"ChargePostsModel", "take", "(I)Z"⟩ ∈ jW := jwp (q := (⟨"ChargePostsModel", "take", "(I)Z"⟩, 39)) (by show _ ∈ lw_privs_1 ++ (lw_privs_2 ++ (lw_privs_3 ++ lw_privs_4)); exact List.mem_of_getElem? (i := 27) rfl)
theorem tp_28 : Cond.selects "ChargePostsModel" ⟨"ChargePostsModel", "takeHead", "(I)Z"⟩ ⟨"ChargePostsModel", "takeHead", "(I)Z"⟩ ∈ jW := jwp (q := (⟨"ChargePostsModel", "takeHead", "(I)Z"⟩, 39)) (by show _ ∈ lw_privs_1 ++ (lw_privs_2 ++ (lw_privs_3 ++ lw_privs_4)); exact List.mem_of_getElem? (i := 28) rfl)
theorem tp_29 : Cond.selects "ChargePostsModel" ⟨"ChargePostsModel", "takeOfCar", "(I)Z"⟩ ⟨"ChargePostsModel", "takeOfCar", "(I)Z"⟩ ∈ jW := jwp (q := (⟨"ChargePostsModel", "takeOfCar", "(I)Z"⟩, 39)) (by show _ ∈ lw_privs_1 ++ (lw_privs_2 ++ (lw_privs_3 ++ lw_privs_4)); exact List.mem_of_getElem? (i := 29) rfl)
theorem tp_30 : Cond.selects "ChargePostsModel" ⟨"ChargePostsModel", "inState", "([II)I"⟩ ⟨"ChargePostsModel", "inState", "([II)I"⟩ ∈ jW := jwp (q := (⟨"ChargePostsModel", "inState", "([II)I"⟩, 39)) (by show _ ∈ lw_privs_1 ++ (lw_privs_2 ++ (lw_privs_3 ++ lw_privs_4)); exact List.mem_of_getElem? (i := 30) rfl)
theorem tp_31 : Cond.selects "ChargePostsModel" ⟨"ChargePostsModel", "meters", "([I)I"⟩ ⟨"ChargePostsModel", "meters", "([I)I"⟩ ∈ jW := jwp (q := (⟨"ChargePostsModel", "meters", "([I)I"⟩, 39)) (by show _ ∈ lw_privs_1 ++ (lw_privs_2 ++ (lw_privs_3 ++ lw_privs_4)); exact List.mem_of_getElem? (i := 31) rfl)
theorem tp_32 : Cond.selects "ChargePostsModel" ⟨"ChargePostsModel", "left", "()I"⟩ ⟨"ChargePostsModel", "left", "()I"⟩ ∈ jW := jwp (q := (⟨"ChargePostsModel", "left", "()I"⟩, 39)) (by show _ ∈ lw_privs_1 ++ (lw_privs_2 ++ (lw_privs_3 ++ lw_privs_4)); exact List.mem_of_getElem? (i := 32) rfl)
theorem tp_33 : Cond.selects "ChargePostsModel" ⟨"ChargePostsModel", "isPost", "(I)Z"⟩ ⟨"ChargePostsModel", "isPost", "(I)Z"⟩ ∈ jW := jwp (q := (⟨"ChargePostsModel", "isPost", "(I)Z"⟩, 39)) (by show _ ∈ lw_privs_1 ++ (lw_privs_2 ++ (lw_privs_3 ++ lw_privs_4)); exact List.mem_of_getElem? (i := 33) rfl)
theorem tp_34 : Cond.selects "ChargePostsModel" ⟨"ChargePostsModel", "tell", "([III)I"⟩ ⟨"ChargePostsModel", "tell", "([III)I"⟩ ∈ jW := jwp (q := (⟨"ChargePostsModel", "tell", "([III)I"⟩, 39)) (by show _ ∈ lw_privs_1 ++ (lw_privs_2 ++ (lw_privs_3 ++ lw_privs_4)); exact List.mem_of_getElem? (i := 34) rfl)
theorem tp_35 : Cond.selects "ChargePostsModel" ⟨"ChargePostsModel", "placeOf", "([II)I"⟩ ⟨"ChargePostsModel", "placeOf", "([II)I"⟩ ∈ jW := jwp (q := (⟨"ChargePostsModel", "placeOf", "([II)I"⟩, 39)) (by show _ ∈ lw_privs_1 ++ (lw_privs_2 ++ (lw_privs_3 ++ lw_privs_4)); exact List.mem_of_getElem? (i := 35) rfl)
theorem tp_36 : Cond.selects "ChargePostsModel" ⟨"ChargePostsModel", "layOrder", "([I)V"⟩ ⟨"ChargePostsModel", "layOrder", "([I)V"⟩ ∈ jW := jwp (q := (⟨"ChargePostsModel", "layOrder", "([I)V"⟩, 39)) (by show _ ∈ lw_privs_1 ++ (lw_privs_2 ++ (lw_privs_3 ++ lw_privs_4)); exact List.mem_of_getElem? (i := 36) rfl)
theorem tp_37 : Cond.selects "ChargePostsModel" ⟨"ChargePostsModel", "isBefore", "([III)Z"⟩ ⟨"ChargePostsModel", "isBefore", "([III)Z"⟩ ∈ jW := jwp (q := (⟨"ChargePostsModel", "isBefore", "([III)Z"⟩, 39)) (by show _ ∈ lw_privs_1 ++ (lw_privs_2 ++ (lw_privs_3 ++ lw_privs_4)); exact List.mem_of_getElem? (i := 37) rfl)
theorem tp_38 : Cond.selects "ChargePostsModel" ⟨"ChargePostsModel", "isCar", "(I)Z"⟩ ⟨"ChargePostsModel", "isCar", "(I)Z"⟩ ∈ jW := jwp (q := (⟨"ChargePostsModel", "isCar", "(I)Z"⟩, 39)) (by show _ ∈ lw_privs_1 ++ (lw_privs_2 ++ (lw_privs_3 ++ lw_privs_4)); exact List.mem_of_getElem? (i := 38) rfl)
theorem tp_39 : Cond.selects "ChargePostsModel" ⟨"ChargePostsModel", "note", "()V"⟩ ⟨"ChargePostsModel", "note", "()V"⟩ ∈ jW := jwp (q := (⟨"ChargePostsModel", "note", "()V"⟩, 39)) (by show _ ∈ lw_privs_1 ++ (lw_privs_2 ++ (lw_privs_3 ++ lw_privs_4)); exact List.mem_of_getElem? (i := 39) rfl)
theorem tp_40 : Cond.selects "ChargePostsModel" ⟨"ChargePostsModel", "minuteOn", "([II)V"⟩ ⟨"ChargePostsModel", "minuteOn", "([II)V"⟩ ∈ jW := jwp (q := (⟨"ChargePostsModel", "minuteOn", "([II)V"⟩, 39)) (by show _ ∈ lw_privs_1 ++ (lw_privs_2 ++ (lw_privs_3 ++ lw_privs_4)); exact List.mem_of_getElem? (i := 40) rfl)
theorem tp_41 : Cond.selects "ChargePostsModel" ⟨"ChargePostsModel", "beSilent", "([II)V"⟩ ⟨"ChargePostsModel", "beSilent", "([II)V"⟩ ∈ jW := jwp (q := (⟨"ChargePostsModel", "beSilent", "([II)V"⟩, 39)) (by show _ ∈ lw_privs_1 ++ (lw_privs_2 ++ (lw_privs_3 ++ lw_privs_4)); exact List.mem_of_getElem? (i := 41) rfl)
theorem tp_42 : Cond.selects "ChargePostsModel" ⟨"ChargePostsModel", "isMuteAt", "([II)Z"⟩ ⟨"ChargePostsModel", "isMuteAt", "([II)Z"⟩ ∈ jW := jwp (q := (⟨"ChargePostsModel", "isMuteAt", "([II)Z"⟩, 39)) (by show _ ∈ lw_privs_1 ++ (lw_privs_2 ++ (lw_privs_3 ++ lw_privs_4)); exact List.mem_of_getElem? (i := 42) rfl)
theorem tp_43 : Cond.selects "ChargePostsModel" ⟨"ChargePostsModel", "kindOf", "(I)I"⟩ ⟨"ChargePostsModel", "kindOf", "(I)I"⟩ ∈ jW := jwp (q := (⟨"ChargePostsModel", "kindOf", "(I)I"⟩, 39)) (by show _ ∈ lw_privs_1 ++ (lw_privs_2 ++ (lw_privs_3 ++ lw_privs_4)); exact List.mem_of_getElem? (i := 43) rfl)
theorem tp_44 : Cond.selects "ChargePostsModel" ⟨"ChargePostsModel", "goOn", "([I)V"⟩ ⟨"ChargePostsModel", "goOn", "([I)V"⟩ ∈ jW := jwp (q := (⟨"ChargePostsModel", "goOn", "([I)V"⟩, 39)) (by show _ ∈ lw_privs_1 ++ (lw_privs_2 ++ (lw_privs_3 ++ lw_privs_4)); exact List.mem_of_getElem? (i := 44) rfl)
theorem tp_45 : Cond.selects "ChargePostsModel" ⟨"ChargePostsModel", "give", "([I)V"⟩ ⟨"ChargePostsModel", "give", "([I)V"⟩ ∈ jW := jwp (q := (⟨"ChargePostsModel", "give", "([I)V"⟩, 39)) (by show _ ∈ lw_privs_1 ++ (lw_privs_2 ++ (lw_privs_3 ++ lw_privs_4)); exact List.mem_of_getElem? (i := 45) rfl)
theorem tp_46 : Cond.selects "ChargePostsModel" ⟨"ChargePostsModel", "capOf", "([II)I"⟩ ⟨"ChargePostsModel", "capOf", "([II)I"⟩ ∈ jW := jwp (q := (⟨"ChargePostsModel", "capOf", "([II)I"⟩, 39)) (by show _ ∈ lw_privs_1 ++ (lw_privs_2 ++ (lw_privs_3 ++ lw_privs_4)); exact List.mem_of_getElem? (i := 46) rfl)
theorem tp_47 : Cond.selects "ChargePostsModel" ⟨"ChargePostsModel", "draw", "([III)V"⟩ ⟨"ChargePostsModel", "draw", "([III)V"⟩ ∈ jW := jwp (q := (⟨"ChargePostsModel", "draw", "([III)V"⟩, 39)) (by show _ ∈ lw_privs_1 ++ (lw_privs_2 ++ (lw_privs_3 ++ lw_privs_4)); exact List.mem_of_getElem? (i := 47) rfl)
theorem tp_48 : Cond.selects "ChargePostsModel" ⟨"ChargePostsModel", "mayPlug", "([III)Z"⟩ ⟨"ChargePostsModel", "mayPlug", "([III)Z"⟩ ∈ jW := jwp (q := (⟨"ChargePostsModel", "mayPlug", "([III)Z"⟩, 39)) (by show _ ∈ lw_privs_1 ++ (lw_privs_2 ++ (lw_privs_3 ++ lw_privs_4)); exact List.mem_of_getElem? (i := 48) rfl)
theorem tp_49 : Cond.selects "ChargePostsModel" ⟨"ChargePostsModel", "plugOn", "([III)V"⟩ ⟨"ChargePostsModel", "plugOn", "([III)V"⟩ ∈ jW := jwp (q := (⟨"ChargePostsModel", "plugOn", "([III)V"⟩, 39)) (by show _ ∈ lw_privs_1 ++ (lw_privs_2 ++ (lw_privs_3 ++ lw_privs_4)); exact List.mem_of_getElem? (i := 49) rfl)
theorem tp_50 : Cond.selects "ChargePostsModel" ⟨"ChargePostsModel", "clearAt", "([III)V"⟩ ⟨"ChargePostsModel", "clearAt", "([III)V"⟩ ∈ jW := jwp (q := (⟨"ChargePostsModel", "clearAt", "([III)V"⟩, 39)) (by show _ ∈ lw_privs_1 ++ (lw_privs_2 ++ (lw_privs_3 ++ lw_privs_4)); exact List.mem_of_getElem? (i := 50) rfl)
theorem tp_51 : Cond.selects "ChargePostsModel" ⟨"ChargePostsModel", "pullOn", "([II)V"⟩ ⟨"ChargePostsModel", "pullOn", "([II)V"⟩ ∈ jW := jwp (q := (⟨"ChargePostsModel", "pullOn", "([II)V"⟩, 39)) (by show _ ∈ lw_privs_1 ++ (lw_privs_2 ++ (lw_privs_3 ++ lw_privs_4)); exact List.mem_of_getElem? (i := 51) rfl)
theorem tp_52 : Cond.selects "ChargePostsModel" ⟨"ChargePostsModel", "maySay", "([II)Z"⟩ ⟨"ChargePostsModel", "maySay", "([II)Z"⟩ ∈ jW := jwp (q := (⟨"ChargePostsModel", "maySay", "([II)Z"⟩, 39)) (by show _ ∈ lw_privs_1 ++ (lw_privs_2 ++ (lw_privs_3 ++ lw_privs_4)); exact List.mem_of_getElem? (i := 52) rfl)
theorem tp_53 : Cond.selects "ChargePostsModel" ⟨"ChargePostsModel", "sayOn", "([III)V"⟩ ⟨"ChargePostsModel", "sayOn", "([III)V"⟩ ∈ jW := jwp (q := (⟨"ChargePostsModel", "sayOn", "([III)V"⟩, 39)) (by show _ ∈ lw_privs_1 ++ (lw_privs_2 ++ (lw_privs_3 ++ lw_privs_4)); exact List.mem_of_getElem? (i := 53) rfl)
theorem tp_54 : Cond.selects "ChargePostsModel" ⟨"ChargePostsModel", "tryMinutes", "(II)V"⟩ ⟨"ChargePostsModel", "tryMinutes", "(II)V"⟩ ∈ jW := jwp (q := (⟨"ChargePostsModel", "tryMinutes", "(II)V"⟩, 39)) (by show _ ∈ lw_privs_1 ++ (lw_privs_2 ++ (lw_privs_3 ++ lw_privs_4)); exact List.mem_of_getElem? (i := 54) rfl)
theorem tp_55 : Cond.selects "ChargePostsModel" ⟨"ChargePostsModel", "haveAll", "()Z"⟩ ⟨"ChargePostsModel", "haveAll", "()Z"⟩ ∈ jW := jwp (q := (⟨"ChargePostsModel", "haveAll", "()Z"⟩, 39)) (by show _ ∈ lw_privs_1 ++ (lw_privs_2 ++ (lw_privs_3 ++ lw_privs_4)); exact List.mem_of_getElem? (i := 55) rfl)
theorem tp_56 : Cond.selects "ChargePostsModel" ⟨"ChargePostsModel", "judged", "(III)Z"⟩ ⟨"ChargePostsModel", "judged", "(III)Z"⟩ ∈ jW := jwp (q := (⟨"ChargePostsModel", "judged", "(III)Z"⟩, 39)) (by show _ ∈ lw_privs_1 ++ (lw_privs_2 ++ (lw_privs_3 ++ lw_privs_4)); exact List.mem_of_getElem? (i := 56) rfl)
theorem tp_57 : Cond.selects "ChargePostsModel" ⟨"ChargePostsModel", "isSoBy", "(II)Z"⟩ ⟨"ChargePostsModel", "isSoBy", "(II)Z"⟩ ∈ jW := jwp (q := (⟨"ChargePostsModel", "isSoBy", "(II)Z"⟩, 39)) (by show _ ∈ lw_privs_1 ++ (lw_privs_2 ++ (lw_privs_3 ++ lw_privs_4)); exact List.mem_of_getElem? (i := 57) rfl)
theorem tp_58 : Cond.selects "ChargePostsModel" ⟨"ChargePostsModel", "metersBy", "(I)I"⟩ ⟨"ChargePostsModel", "metersBy", "(I)I"⟩ ∈ jW := jwp (q := (⟨"ChargePostsModel", "metersBy", "(I)I"⟩, 39)) (by show _ ∈ lw_privs_1 ++ (lw_privs_2 ++ (lw_privs_3 ++ lw_privs_4)); exact List.mem_of_getElem? (i := 58) rfl)
theorem jly0 : ∀ k, k < 3 → u_lay RX0 TX0 k ∈ jW
  | 0, _ => tw_76
  | 1, _ => tw_78
  | 2, _ => tw_80
  | k + 3, h => absurd h (by omega)
theorem jin0 : ∀ w ∈ wsX00, w ∈ jW := fun w hw => by
  obtain ⟨k, hk, rfl⟩ := List.mem_map.mp hw
  exact jly0 k (List.mem_range.mp hk)
theorem jly1 : ∀ k, k < 3 → u_lay RX1 TX1 k ∈ jW
  | 0, _ => tw_119
  | 1, _ => tw_121
  | 2, _ => tw_123
  | k + 3, h => absurd h (by omega)
theorem jin1 : ∀ w ∈ wsX10, w ∈ jW := fun w hw => by
  obtain ⟨k, hk, rfl⟩ := List.mem_map.mp hw
  exact jly1 k (List.mem_range.mp hk)
theorem jly2 : ∀ k, k < 4 → u_lay RX2 TX2 k ∈ jW
  | 0, _ => tw_137
  | 1, _ => tw_139
  | 2, _ => tw_141
  | 3, _ => tw_143
  | k + 4, h => absurd h (by omega)
theorem jin2 : ∀ w ∈ wsX20, w ∈ jW := fun w hw => by
  obtain ⟨k, hk, rfl⟩ := List.mem_map.mp hw
  exact jly2 k (List.mem_range.mp hk)
theorem jly3 : ∀ k, k < 6 → u_lay RX3 TX3 k ∈ jW
  | 0, _ => tw_54
  | 1, _ => tw_56
  | 2, _ => tw_58
  | 3, _ => tw_60
  | 4, _ => tw_62
  | 5, _ => tw_64
  | k + 6, h => absurd h (by omega)
theorem jin3 : ∀ w ∈ wsX30, w ∈ jW := fun w hw => by
  obtain ⟨k, hk, rfl⟩ := List.mem_map.mp hw
  exact jly3 k (List.mem_range.mp hk)
theorem jly4 : ∀ k, k < 4 → u_lay RX4 TX4 k ∈ jW
  | 0, _ => tw_97
  | 1, _ => tw_99
  | 2, _ => tw_101
  | 3, _ => tw_103
  | k + 4, h => absurd h (by omega)
theorem jin4 : ∀ w ∈ wsX40, w ∈ jW := fun w hw => by
  obtain ⟨k, hk, rfl⟩ := List.mem_map.mp hw
  exact jly4 k (List.mem_range.mp hk)
theorem jly5 : ∀ k, k < 2 → u_lay RX5 TX5 k ∈ jW
  | 0, _ => tw_30
  | 1, _ => tw_32
  | k + 2, h => absurd h (by omega)
theorem jin5 : ∀ w ∈ wsX50, w ∈ jW := fun w hw => by
  obtain ⟨k, hk, rfl⟩ := List.mem_map.mp hw
  exact jly5 k (List.mem_range.mp hk)
theorem jly6 : ∀ k, k < 11 → u_lay RX6 TX6 k ∈ jW
  | 0, _ => tw_177
  | 1, _ => tw_179
  | 2, _ => tw_181
  | 3, _ => tw_183
  | 4, _ => tw_185
  | 5, _ => tw_187
  | 6, _ => tw_189
  | 7, _ => tw_191
  | 8, _ => tw_193
  | 9, _ => tw_195
  | 10, _ => tw_197
  | k + 11, h => absurd h (by omega)
theorem jin6 : ∀ w ∈ wsX60, w ∈ jW := fun w hw => by
  obtain ⟨k, hk, rfl⟩ := List.mem_map.mp hw
  exact jly6 k (List.mem_range.mp hk)
theorem jly7 : ∀ k, k < 39 → u_lay RX7 TX7 k ∈ jW
  | 0, _ => tw_653
  | 1, _ => tw_655
  | 2, _ => tw_657
  | 3, _ => tw_659
  | 4, _ => tw_661
  | 5, _ => tw_663
  | 6, _ => tw_665
  | 7, _ => tw_667
  | 8, _ => tw_669
  | 9, _ => tw_671
  | 10, _ => tw_673
  | 11, _ => tw_675
  | 12, _ => tw_677
  | 13, _ => tw_679
  | 14, _ => tw_681
  | 15, _ => tw_683
  | 16, _ => tw_685
  | 17, _ => tw_687
  | 18, _ => tw_689
  | 19, _ => tw_691
  | 20, _ => tw_693
  | 21, _ => tw_695
  | 22, _ => tw_697
  | 23, _ => tw_699
  | 24, _ => tw_701
  | 25, _ => tw_703
  | 26, _ => tw_705
  | 27, _ => tw_707
  | 28, _ => tw_709
  | 29, _ => tw_711
  | 30, _ => tw_713
  | 31, _ => tw_715
  | 32, _ => tw_717
  | 33, _ => tw_719
  | 34, _ => tw_721
  | 35, _ => tw_723
  | 36, _ => tw_725
  | 37, _ => tw_727
  | 38, _ => tw_729
  | k + 39, h => absurd h (by omega)
theorem jin7 : ∀ w ∈ wsX70, w ∈ jW := fun w hw => by
  obtain ⟨k, hk, rfl⟩ := List.mem_map.mp hw
  exact jly7 k (List.mem_range.mp hk)
def Y_X0_init : jY := (yX0_init, cX0_init, 2, none, (1, 20), (2, 8))
theorem jc_X0_init : jcode Y_X0_init ∈ jW := tw_71
def Y_X4_get : jY := (yX4_get, cX4_get, 3, (some .int), (0, 0), (0, 0))
theorem jc_X4_get : jcode Y_X4_get ∈ jW := tw_269
def Y_X6_has : jY := (yX6_has, cX6_has, 2, (some .boolean), (0, 0), (0, 0))
theorem jc_X6_has : jcode Y_X6_has ∈ jW := tw_309
def Y_X3_trait : jY := (yX3_trait, cX3_trait, 3, (some .int), (0, 0), (0, 0))
theorem jc_X3_trait : jcode Y_X3_trait ∈ jW := tw_165
def Y_X4_restOf : jY := (yX4_restOf, cX4_restOf, 2, (some .int), (0, 0), (0, 0))
theorem jc_X4_restOf : jcode Y_X4_restOf ∈ jW := tw_281
def Y_X0_overtakes : jY := (yX0_overtakes, cX0_overtakes, 7, (some .boolean), (1, 22), (0, 0))
theorem jc_X0_overtakes : jcode Y_X0_overtakes ∈ jW := tw_313
def Y_X0_arrange : jY := (yX0_arrange, cX0_arrange, 6, (some .int), (2, 48), (0, 0))
theorem jc_X0_arrange : jcode Y_X0_arrange ∈ jW := tw_305
def Y_X0_indexOf : jY := (yX0_indexOf, cX0_indexOf, 5, (some .int), (3, 73), (0, 0))
theorem jc_X0_indexOf : jcode Y_X0_indexOf ∈ jW := tw_301
def Y_X0_property : jY := (yX0_property, cX0_property, 4, (some .int), (4, 97), (0, 0))
theorem jc_X0_property : jcode Y_X0_property ∈ jW := tw_297
def Y_X4_isLive : jY := (yX4_isLive, cX4_isLive, 3, (some .boolean), (1, 22), (0, 0))
theorem jc_X4_isLive : jcode Y_X4_isLive ∈ jW := tw_353
def Y_X0_kindAt : jY := (yX0_kindAt, cX0_kindAt, 5, (some .int), (1, 22), (0, 0))
theorem jc_X0_kindAt : jcode Y_X0_kindAt ∈ jW := tw_357
def Y_X4_set : jY := (yX4_set, cX4_set, 4, none, (0, 0), (0, 0))
theorem jc_X4_set : jcode Y_X4_set ∈ jW := tw_153
def Y_X0_growSilent : jY := (yX0_growSilent, cX0_growSilent, 6, none, (2, 46), (0, 0))
theorem jc_X0_growSilent : jcode Y_X0_growSilent ∈ jW := tw_349
def Y_X0_growOlder : jY := (yX0_growOlder, cX0_growOlder, 5, none, (2, 46), (0, 0))
theorem jc_X0_growOlder : jcode Y_X0_growOlder ∈ jW := tw_366
def Y_X0_changeStates : jY := (yX0_changeStates, cX0_changeStates, 6, none, (3, 70), (0, 0))
theorem jc_X0_changeStates : jcode Y_X0_changeStates ∈ jW := tw_362
def Y_X3_ampsOf : jY := (yX3_ampsOf, cX3_ampsOf, 2, (some .int), (0, 0), (0, 0))
theorem jc_X3_ampsOf : jcode Y_X3_ampsOf ∈ jW := tw_293
def Y_X0_mostFor : jY := (yX0_mostFor, cX0_mostFor, 6, (some .int), (2, 46), (0, 0))
theorem jc_X0_mostFor : jcode Y_X0_mostFor ∈ jW := tw_374
def Y_X0_give : jY := (yX0_give, cX0_give, 7, none, (3, 71), (0, 0))
theorem jc_X0_give : jcode Y_X0_give ∈ jW := tw_370
def Y_X4_setRest : jY := (yX4_setRest, cX4_setRest, 3, none, (0, 0), (0, 0))
theorem jc_X4_setRest : jcode Y_X4_setRest ∈ jW := tw_393
def Y_X6_nextSign : jY := (yX6_nextSign, cX6_nextSign, 3, (some .int), (0, 0), (0, 0))
theorem jc_X6_nextSign : jcode Y_X6_nextSign ∈ jW := tw_396
def Y_X0_meter : jY := (yX0_meter, cX0_meter, 5, none, (1, 23), (0, 0))
theorem jc_X0_meter : jcode Y_X0_meter ∈ jW := tw_386
def Y_X0_exceed : jY := (yX0_exceed, cX0_exceed, 4, none, (1, 23), (0, 0))
theorem jc_X0_exceed : jcode Y_X0_exceed ∈ jW := tw_400
def Y_X0_draw : jY := (yX0_draw, cX0_draw, 6, none, (2, 47), (0, 0))
theorem jc_X0_draw : jcode Y_X0_draw ∈ jW := tw_382
def Y_X0_pass : jY := (yX0_pass, cX0_pass, 8, none, (4, 97), (0, 0))
theorem jc_X0_pass : jcode Y_X0_pass ∈ jW := tw_345
def Y_X4_meters : jY := (yX4_meters, cX4_meters, 3, (some .int), (1, 22), (0, 0))
theorem jc_X4_meters : jcode Y_X4_meters ∈ jW := tw_273
def Y_X0_passMinutes : jY := (yX0_passMinutes, cX0_passMinutes, 3, (some .int), (5, 124), (0, 0))
theorem jc_X0_passMinutes : jcode Y_X0_passMinutes ∈ jW := tw_341
def Y_X3_hasPost : jY := (yX3_hasPost, cX3_hasPost, 2, (some .boolean), (0, 0), (0, 0))
theorem jc_X3_hasPost : jcode Y_X3_hasPost ∈ jW := tw_289
def Y_X3_hasCar : jY := (yX3_hasCar, cX3_hasCar, 2, (some .boolean), (0, 0), (0, 0))
theorem jc_X3_hasCar : jcode Y_X3_hasCar ∈ jW := tw_161
def Y_X4_postOf : jY := (yX4_postOf, cX4_postOf, 3, (some .int), (1, 22), (0, 0))
theorem jc_X4_postOf : jcode Y_X4_postOf ∈ jW := tw_325
def Y_X4_restart : jY := (yX4_restart, cX4_restart, 3, none, (1, 23), (0, 0))
theorem jc_X4_restart : jcode Y_X4_restart ∈ jW := tw_157
def Y_X4_carsAtPosts : jY := (yX4_carsAtPosts, cX4_carsAtPosts, 3, (some .int), (1, 22), (0, 0))
theorem jc_X4_carsAtPosts : jcode Y_X4_carsAtPosts ∈ jW := tw_427
def Y_X0_plugIn : jY := (yX0_plugIn, cX0_plugIn, 4, (some .int), (2, 45), (0, 0))
theorem jc_X0_plugIn : jcode Y_X0_plugIn ∈ jW := tw_419
def Y_X0_pullOut : jY := (yX0_pullOut, cX0_pullOut, 4, (some .int), (2, 45), (0, 0))
theorem jc_X0_pullOut : jcode Y_X0_pullOut ∈ jW := tw_435
def Y_X0_climb : jY := (yX0_climb, cX0_climb, 4, none, (1, 23), (0, 0))
theorem jc_X0_climb : jcode Y_X0_climb ∈ jW := tw_447
def Y_X0_tell : jY := (yX0_tell, cX0_tell, 4, (some .int), (2, 46), (0, 0))
theorem jc_X0_tell : jcode Y_X0_tell ∈ jW := tw_443
def Y_X4_postsIn : jY := (yX4_postsIn, cX4_postsIn, 4, (some .int), (1, 22), (0, 0))
theorem jc_X4_postsIn : jcode Y_X4_postsIn ∈ jW := tw_265
def Y_J6_bitCount_0f7a4 : jY := (yJ6_bitCount_0f7a4, cJ6_bitCount_0f7a4, 1, (some .int), (0, 0), (0, 0))
theorem jc_J6_bitCount_0f7a4 : jcode Y_J6_bitCount_0f7a4 ∈ jW := tw_459
def Y_X0_revive : jY := (yX0_revive, cX0_revive, 3, (some .int), (2, 45), (0, 0))
theorem jc_X0_revive : jcode Y_X0_revive ∈ jW := tw_455
def Y_X0_changeLimit : jY := (yX0_changeLimit, cX0_changeLimit, 4, (some .int), (0, 0), (0, 0))
theorem jc_X0_changeLimit : jcode Y_X0_changeLimit ∈ jW := tw_470
def Y_X4_init : jY := (yX4_init, cX4_init, 1, none, (1, 20), (2, 38))
theorem jc_X4_init : jcode Y_X4_init ∈ jW := tw_87
def Y_X1_init : jY := (yX1_init, cX1_init, 2, none, (2, 40), (43, 602))
theorem jc_X1_init : jcode Y_X1_init ∈ jW := tw_110
def Y_X4_take : jY := (yX4_take, cX4_take, 2, none, (1, 26), (0, 0))
theorem jc_X4_take : jcode Y_X4_take ∈ jW := tw_334
def Y_X1_remember : jY := (yX1_remember, cX1_remember, 2, none, (2, 47), (0, 0))
theorem jc_X1_remember : jcode Y_X1_remember ∈ jW := tw_409
def Y_X1_restore : jY := (yX1_restore, cX1_restore, 2, (some .int), (2, 47), (0, 0))
theorem jc_X1_restore : jcode Y_X1_restore ∈ jW := tw_478
def Y_X2_init : jY := (yX2_init, cX2_init, 1, none, (1, 20), (3, 18))
theorem jc_X2_init : jcode Y_X2_init ∈ jW := tw_130
def Y_X2_add : jY := (yX2_add, cX2_add, 4, (some .boolean), (0, 0), (0, 0))
theorem jc_X2_add : jcode Y_X2_add ∈ jW := tw_538
def Y_X2_deny : jY := (yX2_deny, cX2_deny, 6, (some .boolean), (1, 22), (0, 0))
theorem jc_X2_deny : jcode Y_X2_deny ∈ jW := tw_554
def Y_X3_init : jY := (yX3_init, cX3_init, 1, none, (1, 20), (2, 28))
theorem jc_X3_init : jcode Y_X3_init ∈ jW := tw_40
def Y_X5_byteAt : jY := (yX5_byteAt, cX5_byteAt, 2, (some .int), (0, 0), (0, 0))
theorem jc_X5_byteAt : jcode Y_X5_byteAt ∈ jW := tw_227
def Y_X5_digitAt : jY := (yX5_digitAt, cX5_digitAt, 2, (some .int), (1, 21), (0, 0))
theorem jc_X5_digitAt : jcode Y_X5_digitAt ∈ jW := tw_235
def Y_X3_addPost : jY := (yX3_addPost, cX3_addPost, 2, none, (0, 0), (0, 0))
theorem jc_X3_addPost : jcode Y_X3_addPost ∈ jW := tw_253
def Y_X3_addCar : jY := (yX3_addCar, cX3_addCar, 4, none, (2, 42), (0, 0))
theorem jc_X3_addCar : jcode Y_X3_addCar ∈ jW := tw_257
def Y_X3_build : jY := (yX3_build, cX3_build, 4, none, (3, 65), (0, 0))
theorem jc_X3_build : jcode Y_X3_build ∈ jW := tw_247
def Y_X3_allAmps : jY := (yX3_allAmps, cX3_allAmps, 3, (some .int), (1, 21), (0, 0))
theorem jc_X3_allAmps : jcode Y_X3_allAmps ∈ jW := tw_495
def Y_X4_begin : jY := (yX4_begin, cX4_begin, 3, none, (2, 45), (0, 0))
theorem jc_X4_begin : jcode Y_X4_begin ∈ jW := tw_149
def Y_X4_allCharged : jY := (yX4_allCharged, cX4_allCharged, 2, (some .boolean), (1, 22), (0, 0))
theorem jc_X4_allCharged : jcode Y_X4_allCharged ∈ jW := tw_500
def Y_X4_rests : jY := (yX4_rests, cX4_rests, 3, (some .int), (1, 21), (0, 0))
theorem jc_X4_rests : jcode Y_X4_rests ∈ jW := tw_277
def Y_X5_init : jY := (yX5_init, cX5_init, 1, none, (1, 20), (1, 70))
theorem jc_X5_init : jcode Y_X5_init ∈ jW := tw_24
def Y_X5_append : jY := (yX5_append, cX5_append, 2, (some .boolean), (0, 0), (0, 0))
theorem jc_X5_append : jcode Y_X5_append ∈ jW := tw_207
def Y_X5_isDigit : jY := (yX5_isDigit, cX5_isDigit, 5, (some .boolean), (2, 42), (0, 0))
theorem jc_X5_isDigit : jcode Y_X5_isDigit ∈ jW := tw_231
def Y_X5_faultOfHead : jY := (yX5_faultOfHead, cX5_faultOfHead, 1, (some .int), (3, 66), (0, 0))
theorem jc_X5_faultOfHead : jcode Y_X5_faultOfHead ∈ jW := tw_223
def Y_X5_faultOfCar : jY := (yX5_faultOfCar, cX5_faultOfCar, 2, (some .int), (3, 66), (0, 0))
theorem jc_X5_faultOfCar : jcode Y_X5_faultOfCar ∈ jW := tw_239
def Y_X5_firstFault : jY := (yX5_firstFault, cX5_firstFault, 6, (some .int), (4, 87), (0, 0))
theorem jc_X5_firstFault : jcode Y_X5_firstFault ∈ jW := tw_219
def Y_X6_init : jY := (yX6_init, cX6_init, 2, none, (3, 67), (70, 923))
theorem jc_X6_init : jcode Y_X6_init ∈ jW := tw_16
def Y_X6_write : jY := (yX6_write, cX6_write, 2, (some .int), (1, 21), (0, 0))
theorem jc_X6_write : jcode Y_X6_write ∈ jW := tw_203
def Y_X6_wipe : jY := (yX6_wipe, cX6_wipe, 2, (some .int), (0, 0), (0, 0))
theorem jc_X6_wipe : jcode Y_X6_wipe ∈ jW := tw_211
def Y_X6_fault : jY := (yX6_fault, cX6_fault, 1, (some .int), (5, 112), (0, 0))
theorem jc_X6_fault : jcode Y_X6_fault ∈ jW := tw_215
def Y_X6_site : jY := (yX6_site, cX6_site, 1, (some .int), (5, 112), (0, 0))
theorem jc_X6_site : jcode Y_X6_site ∈ jW := tw_243
def Y_X6_about : jY := (yX6_about, cX6_about, 2, (some .int), (2, 45), (0, 0))
theorem jc_X6_about : jcode Y_X6_about ∈ jW := tw_261
def Y_X6_post : jY := (yX6_post, cX6_post, 3, (some .int), (5, 120), (0, 0))
theorem jc_X6_post : jcode Y_X6_post ∈ jW := tw_285
def Y_X6_car : jY := (yX6_car, cX6_car, 3, (some .int), (2, 44), (0, 0))
theorem jc_X6_car : jcode Y_X6_car ∈ jW := tw_319
def Y_X6_settle : jY := (yX6_settle, cX6_settle, 2, (some .int), (3, 68), (0, 0))
theorem jc_X6_settle : jcode Y_X6_settle ∈ jW := tw_405
def Y_X6_minute : jY := (yX6_minute, cX6_minute, 2, (some .int), (6, 146), (0, 0))
theorem jc_X6_minute : jcode Y_X6_minute ∈ jW := tw_330
def Y_X6_plug : jY := (yX6_plug, cX6_plug, 3, (some .int), (4, 89), (0, 0))
theorem jc_X6_plug : jcode Y_X6_plug ∈ jW := tw_415
def Y_X6_pull : jY := (yX6_pull, cX6_pull, 2, (some .int), (4, 89), (0, 0))
theorem jc_X6_pull : jcode Y_X6_pull ∈ jW := tw_431
def Y_X6_say : jY := (yX6_say, cX6_say, 3, (some .int), (4, 89), (0, 0))
theorem jc_X6_say : jcode Y_X6_say ∈ jW := tw_439
def Y_X6_reset : jY := (yX6_reset, cX6_reset, 2, (some .int), (4, 89), (0, 0))
theorem jc_X6_reset : jcode Y_X6_reset ∈ jW := tw_451
def Y_X6_limit : jY := (yX6_limit, cX6_limit, 2, (some .int), (4, 89), (0, 0))
theorem jc_X6_limit : jcode Y_X6_limit ∈ jW := tw_466
def Y_X6_undo : jY := (yX6_undo, cX6_undo, 1, (some .int), (3, 68), (0, 0))
theorem jc_X6_undo : jcode Y_X6_undo ∈ jW := tw_474
def Y_X6_ahead : jY := (yX6_ahead, cX6_ahead, 5, (some .int), (5, 124), (0, 0))
theorem jc_X6_ahead : jcode Y_X6_ahead ∈ jW := tw_482
def Y_X6_done : jY := (yX6_done, cX6_done, 3, (some .int), (5, 124), (0, 0))
theorem jc_X6_done : jcode Y_X6_done ∈ jW := tw_487
def Y_X6_least : jY := (yX6_least, cX6_least, 4, (some .int), (5, 124), (0, 0))
theorem jc_X6_least : jcode Y_X6_least ∈ jW := tw_491
def Y_X6_power : jY := (yX6_power, cX6_power, 4, (some .int), (0, 0), (0, 0))
theorem jc_X6_power : jcode Y_X6_power ∈ jW := tw_507
def Y_X6_spread : jY := (yX6_spread, cX6_spread, 5, none, (1, 21), (0, 0))
theorem jc_X6_spread : jcode Y_X6_spread ∈ jW := tw_515
def Y_X6_signOfRow : jY := (yX6_signOfRow, cX6_signOfRow, 6, (some .int), (2, 45), (0, 0))
theorem jc_X6_signOfRow : jcode Y_X6_signOfRow ∈ jW := tw_511
def Y_X6_signed : jY := (yX6_signed, cX6_signed, 4, (some .int), (3, 70), (0, 0))
theorem jc_X6_signed : jcode Y_X6_signed ∈ jW := tw_504
def Y_X6_forged : jY := (yX6_forged, cX6_forged, 6, (some .int), (3, 70), (0, 0))
theorem jc_X6_forged : jcode Y_X6_forged ∈ jW := tw_521
def Y_X6_holds : jY := (yX6_holds, cX6_holds, 4, (some .boolean), (6, 146), (0, 0))
theorem jc_X6_holds : jcode Y_X6_holds ∈ jW := tw_529
def Y_X6_judge : jY := (yX6_judge, cX6_judge, 4, (some .int), (7, 169), (0, 0))
theorem jc_X6_judge : jcode Y_X6_judge ∈ jW := tw_525
def Y_X6_see : jY := (yX6_see, cX6_see, 4, (some .int), (1, 23), (0, 0))
theorem jc_X6_see : jcode Y_X6_see ∈ jW := tw_534
def Y_X6_unsee : jY := (yX6_unsee, cX6_unsee, 2, (some .int), (0, 0), (0, 0))
theorem jc_X6_unsee : jcode Y_X6_unsee ∈ jW := tw_542
def Y_X6_mayLie : jY := (yX6_mayLie, cX6_mayLie, 3, (some .boolean), (5, 124), (0, 0))
theorem jc_X6_mayLie : jcode Y_X6_mayLie ∈ jW := tw_550
def Y_X6_which : jY := (yX6_which, cX6_which, 3, (some .int), (6, 146), (0, 0))
theorem jc_X6_which : jcode Y_X6_which ∈ jW := tw_546
def Y_X6_factorial : jY := (yX6_factorial, cX6_factorial, 3, (some .int), (0, 0), (0, 0))
theorem jc_X6_factorial : jcode Y_X6_factorial ∈ jW := tw_563
def Y_X6_worth : jY := (yX6_worth, cX6_worth, 2, (some .int), (5, 124), (0, 0))
theorem jc_X6_worth : jcode Y_X6_worth ∈ jW := tw_568
def Y_X6_greatestDivisor : jY := (yX6_greatestDivisor, cX6_greatestDivisor, 6, (some .int), (0, 0), (0, 0))
theorem jc_X6_greatestDivisor : jcode Y_X6_greatestDivisor ∈ jW := tw_577
def Y_X6_lowest : jY := (yX6_lowest, cX6_lowest, 4, (some .int), (1, 25), (0, 0))
theorem jc_X6_lowest : jcode Y_X6_lowest ∈ jW := tw_571
def Y_X6_share : jY := (yX6_share, cX6_share, 8, (some .int), (6, 145), (0, 0))
theorem jc_X6_share : jcode Y_X6_share ∈ jW := tw_559
def Y_X6_chance : jY := (yX6_chance, cX6_chance, 7, (some .int), (5, 124), (0, 0))
theorem jc_X6_chance : jcode Y_X6_chance ∈ jW := tw_581
def Y_X6_seed : jY := (yX6_seed, cX6_seed, 5, (some .long), (0, 0), (0, 0))
theorem jc_X6_seed : jcode Y_X6_seed ∈ jW := tw_585
def Y_X6_tryStep : jY := (yX6_tryStep, cX6_tryStep, 3, none, (5, 124), (0, 0))
theorem jc_X6_tryStep : jcode Y_X6_tryStep ∈ jW := tw_595
def Y_X6_drawn : jY := (yX6_drawn, cX6_drawn, 4, (some .int), (6, 146), (0, 0))
theorem jc_X6_drawn : jcode Y_X6_drawn ∈ jW := tw_589
def Y_X6_keep : jY := (yX6_keep, cX6_keep, 2, (some .int), (2, 47), (0, 0))
theorem jc_X6_keep : jcode Y_X6_keep ∈ jW := tw_599
def Y_X6_again : jY := (yX6_again, cX6_again, 2, (some .int), (2, 47), (0, 0))
theorem jc_X6_again : jcode Y_X6_again ∈ jW := tw_603
def Y_X7_fresh : jY := (yX7_fresh, cX7_fresh, 2, none, (0, 0), (0, 0))
theorem jc_X7_fresh : jcode Y_X7_fresh ∈ jW := tw_613
def Y_X7_init : jY := (yX7_init, cX7_init, 1, none, (1, 21), (22, 890))
theorem jc_X7_init : jcode Y_X7_init ∈ jW := tw_608
def Y_X7_copy : jY := (yX7_copy, cX7_copy, 3, none, (0, 0), (0, 0))
theorem jc_X7_copy : jcode Y_X7_copy ∈ jW := tw_925
def Y_X7_in : jY := (yX7_in, cX7_in, 3, (some .boolean), (0, 0), (0, 0))
theorem jc_X7_in : jcode Y_X7_in ∈ jW := tw_739
def Y_X7_has : jY := (yX7_has, cX7_has, 2, (some .boolean), (0, 0), (0, 0))
theorem jc_X7_has : jcode Y_X7_has ∈ jW := tw_806
def Y_X7_ones : jY := (yX7_ones, cX7_ones, 3, (some .int), (0, 0), (0, 0))
theorem jc_X7_ones : jcode Y_X7_ones ∈ jW := tw_910
def Y_X7_power : jY := (yX7_power, cX7_power, 4, (some .int), (0, 0), (0, 0))
theorem jc_X7_power : jcode Y_X7_power ∈ jW := tw_948
def Y_X7_factorial : jY := (yX7_factorial, cX7_factorial, 3, (some .int), (0, 0), (0, 0))
theorem jc_X7_factorial : jcode Y_X7_factorial ∈ jW := tw_990
def Y_X7_fraction : jY := (yX7_fraction, cX7_fraction, 6, (some .int), (0, 0), (0, 0))
theorem jc_X7_fraction : jcode Y_X7_fraction ∈ jW := tw_993
def Y_X7_isPost : jY := (yX7_isPost, cX7_isPost, 2, (some .boolean), (1, 22), (0, 0))
theorem jc_X7_isPost : jcode Y_X7_isPost ∈ jW := tw_791
def Y_X7_isCar : jY := (yX7_isCar, cX7_isCar, 2, (some .boolean), (1, 22), (0, 0))
theorem jc_X7_isCar : jcode Y_X7_isCar ∈ jW := tw_818
def Y_X7_write : jY := (yX7_write, cX7_write, 2, (some .int), (1, 22), (0, 0))
theorem jc_X7_write : jcode Y_X7_write ∈ jW := tw_736
def Y_X7_wipe : jY := (yX7_wipe, cX7_wipe, 2, (some .int), (0, 0), (0, 0))
theorem jc_X7_wipe : jcode Y_X7_wipe ∈ jW := tw_743
def Y_X7_takeHead : jY := (yX7_takeHead, cX7_takeHead, 2, (some .boolean), (1, 22), (0, 0))
theorem jc_X7_takeHead : jcode Y_X7_takeHead ∈ jW := tw_759
def Y_X7_takeOfCar : jY := (yX7_takeOfCar, cX7_takeOfCar, 3, (some .boolean), (1, 22), (0, 0))
theorem jc_X7_takeOfCar : jcode Y_X7_takeOfCar ∈ jW := tw_763
def Y_X7_take : jY := (yX7_take, cX7_take, 3, (some .boolean), (2, 44), (0, 0))
theorem jc_X7_take : jcode Y_X7_take ∈ jW := tw_755
def Y_X7_readText : jY := (yX7_readText, cX7_readText, 2, (some .int), (3, 66), (0, 0))
theorem jc_X7_readText : jcode Y_X7_readText ∈ jW := tw_751
def Y_X7_fault : jY := (yX7_fault, cX7_fault, 1, (some .int), (4, 87), (0, 0))
theorem jc_X7_fault : jcode Y_X7_fault ∈ jW := tw_747
def Y_X7_site : jY := (yX7_site, cX7_site, 2, (some .int), (4, 87), (0, 0))
theorem jc_X7_site : jcode Y_X7_site ∈ jW := tw_767
def Y_X7_kindOf : jY := (yX7_kindOf, cX7_kindOf, 2, (some .int), (0, 0), (0, 0))
theorem jc_X7_kindOf : jcode Y_X7_kindOf ∈ jW := tw_848
def Y_X7_isMuteAt : jY := (yX7_isMuteAt, cX7_isMuteAt, 3, (some .boolean), (1, 21), (0, 0))
theorem jc_X7_isMuteAt : jcode Y_X7_isMuteAt ∈ jW := tw_844
def Y_X7_isLive : jY := (yX7_isLive, cX7_isLive, 2, (some .boolean), (1, 22), (0, 0))
theorem jc_X7_isLive : jcode Y_X7_isLive ∈ jW := tw_840
def Y_X7_clearAt : jY := (yX7_clearAt, cX7_clearAt, 4, none, (0, 0), (0, 0))
theorem jc_X7_clearAt : jcode Y_X7_clearAt ∈ jW := tw_883
def Y_X7_beSilent : jY := (yX7_beSilent, cX7_beSilent, 4, none, (2, 43), (0, 0))
theorem jc_X7_beSilent : jcode Y_X7_beSilent ∈ jW := tw_837
def Y_X7_goOn : jY := (yX7_goOn, cX7_goOn, 4, none, (2, 43), (0, 0))
theorem jc_X7_goOn : jcode Y_X7_goOn ∈ jW := tw_852
def Y_X7_isBefore : jY := (yX7_isBefore, cX7_isBefore, 6, (some .boolean), (0, 0), (0, 0))
theorem jc_X7_isBefore : jcode Y_X7_isBefore ∈ jW := tw_810
def Y_X7_layOrder : jY := (yX7_layOrder, cX7_layOrder, 4, none, (1, 25), (0, 0))
theorem jc_X7_layOrder : jcode Y_X7_layOrder ∈ jW := tw_803
def Y_X7_capOf : jY := (yX7_capOf, cX7_capOf, 5, (some .int), (2, 43), (0, 0))
theorem jc_X7_capOf : jcode Y_X7_capOf ∈ jW := tw_860
def Y_X7_give : jY := (yX7_give, cX7_give, 5, none, (3, 67), (0, 0))
theorem jc_X7_give : jcode Y_X7_give ∈ jW := tw_856
def Y_X7_signedBy : jY := (yX7_signedBy, cX7_signedBy, 3, (some .int), (0, 0), (0, 0))
theorem jc_X7_signedBy : jcode Y_X7_signedBy ∈ jW := tw_867
def Y_X7_draw : jY := (yX7_draw, cX7_draw, 6, none, (1, 22), (0, 0))
theorem jc_X7_draw : jcode Y_X7_draw ∈ jW := tw_864
def Y_X7_minuteOn : jY := (yX7_minuteOn, cX7_minuteOn, 4, none, (4, 91), (0, 0))
theorem jc_X7_minuteOn : jcode Y_X7_minuteOn ∈ jW := tw_833
def Y_X7_tryMinutes : jY := (yX7_tryMinutes, cX7_tryMinutes, 4, none, (5, 114), (0, 0))
theorem jc_X7_tryMinutes : jcode Y_X7_tryMinutes ∈ jW := tw_929
def Y_X7_inState : jY := (yX7_inState, cX7_inState, 5, (some .int), (0, 0), (0, 0))
theorem jc_X7_inState : jcode Y_X7_inState ∈ jW := tw_775
def Y_X7_meters : jY := (yX7_meters, cX7_meters, 4, (some .int), (0, 0), (0, 0))
theorem jc_X7_meters : jcode Y_X7_meters ∈ jW := tw_779
def Y_X7_left : jY := (yX7_left, cX7_left, 3, (some .int), (0, 0), (0, 0))
theorem jc_X7_left : jcode Y_X7_left ∈ jW := tw_783
def Y_X7_about : jY := (yX7_about, cX7_about, 2, (some .int), (1, 24), (0, 0))
theorem jc_X7_about : jcode Y_X7_about ∈ jW := tw_771
def Y_X7_placeOf : jY := (yX7_placeOf, cX7_placeOf, 5, (some .int), (2, 48), (0, 0))
theorem jc_X7_placeOf : jcode Y_X7_placeOf ∈ jW := tw_799
def Y_X7_tell : jY := (yX7_tell, cX7_tell, 4, (some .int), (3, 72), (0, 0))
theorem jc_X7_tell : jcode Y_X7_tell ∈ jW := tw_795
def Y_X7_post : jY := (yX7_post, cX7_post, 3, (some .int), (4, 95), (0, 0))
theorem jc_X7_post : jcode Y_X7_post ∈ jW := tw_787
def Y_X7_postOf : jY := (yX7_postOf, cX7_postOf, 4, (some .int), (0, 0), (0, 0))
theorem jc_X7_postOf : jcode Y_X7_postOf ∈ jW := tw_821
def Y_X7_car : jY := (yX7_car, cX7_car, 3, (some .int), (2, 43), (0, 0))
theorem jc_X7_car : jcode Y_X7_car ∈ jW := tw_814
def Y_X7_note : jY := (yX7_note, cX7_note, 2, none, (0, 0), (0, 0))
theorem jc_X7_note : jcode Y_X7_note ∈ jW := tw_829
def Y_X7_minute : jY := (yX7_minute, cX7_minute, 3, (some .int), (5, 114), (0, 0))
theorem jc_X7_minute : jcode Y_X7_minute ∈ jW := tw_825
def Y_X7_mayPlug : jY := (yX7_mayPlug, cX7_mayPlug, 4, (some .boolean), (1, 23), (0, 0))
theorem jc_X7_mayPlug : jcode Y_X7_mayPlug ∈ jW := tw_875
def Y_X7_plugOn : jY := (yX7_plugOn, cX7_plugOn, 4, none, (1, 23), (0, 0))
theorem jc_X7_plugOn : jcode Y_X7_plugOn ∈ jW := tw_879
def Y_X7_plug : jY := (yX7_plug, cX7_plug, 5, (some .int), (2, 46), (0, 0))
theorem jc_X7_plug : jcode Y_X7_plug ∈ jW := tw_871
def Y_X7_pullOn : jY := (yX7_pullOn, cX7_pullOn, 3, none, (1, 23), (0, 0))
theorem jc_X7_pullOn : jcode Y_X7_pullOn ∈ jW := tw_891
def Y_X7_pull : jY := (yX7_pull, cX7_pull, 3, (some .int), (2, 45), (0, 0))
theorem jc_X7_pull : jcode Y_X7_pull ∈ jW := tw_887
def Y_X7_maySay : jY := (yX7_maySay, cX7_maySay, 3, (some .boolean), (2, 43), (0, 0))
theorem jc_X7_maySay : jcode Y_X7_maySay ∈ jW := tw_899
def Y_X7_sayOn : jY := (yX7_sayOn, cX7_sayOn, 4, none, (0, 0), (0, 0))
theorem jc_X7_sayOn : jcode Y_X7_sayOn ∈ jW := tw_903
def Y_X7_say : jY := (yX7_say, cX7_say, 3, (some .int), (3, 65), (0, 0))
theorem jc_X7_say : jcode Y_X7_say ∈ jW := tw_895
def Y_X7_reset : jY := (yX7_reset, cX7_reset, 2, (some .int), (2, 43), (0, 0))
theorem jc_X7_reset : jcode Y_X7_reset ∈ jW := tw_907
def Y_X7_limit : jY := (yX7_limit, cX7_limit, 3, (some .int), (1, 22), (0, 0))
theorem jc_X7_limit : jcode Y_X7_limit ∈ jW := tw_914
def Y_X7_undo : jY := (yX7_undo, cX7_undo, 2, (some .int), (0, 0), (0, 0))
theorem jc_X7_undo : jcode Y_X7_undo ∈ jW := tw_918
def Y_X7_ahead : jY := (yX7_ahead, cX7_ahead, 5, (some .int), (6, 137), (0, 0))
theorem jc_X7_ahead : jcode Y_X7_ahead ∈ jW := tw_922
def Y_X7_done : jY := (yX7_done, cX7_done, 3, (some .int), (5, 114), (0, 0))
theorem jc_X7_done : jcode Y_X7_done ∈ jW := tw_933
def Y_X7_haveAll : jY := (yX7_haveAll, cX7_haveAll, 3, (some .boolean), (0, 0), (0, 0))
theorem jc_X7_haveAll : jcode Y_X7_haveAll ∈ jW := tw_941
def Y_X7_least : jY := (yX7_least, cX7_least, 3, (some .int), (6, 137), (0, 0))
theorem jc_X7_least : jcode Y_X7_least ∈ jW := tw_937
def Y_X7_signOf : jY := (yX7_signOf, cX7_signOf, 6, (some .int), (1, 23), (0, 0))
theorem jc_X7_signOf : jcode Y_X7_signOf ∈ jW := tw_951
def Y_X7_signed : jY := (yX7_signed, cX7_signed, 4, (some .int), (2, 48), (0, 0))
theorem jc_X7_signed : jcode Y_X7_signed ∈ jW := tw_945
def Y_X7_forged : jY := (yX7_forged, cX7_forged, 5, (some .int), (2, 48), (0, 0))
theorem jc_X7_forged : jcode Y_X7_forged ∈ jW := tw_955
def Y_X7_judged : jY := (yX7_judged, cX7_judged, 4, (some .boolean), (6, 137), (0, 0))
theorem jc_X7_judged : jcode Y_X7_judged ∈ jW := tw_963
def Y_X7_judge : jY := (yX7_judge, cX7_judge, 5, (some .int), (7, 160), (0, 0))
theorem jc_X7_judge : jcode Y_X7_judge ∈ jW := tw_959
def Y_X7_see : jY := (yX7_see, cX7_see, 4, (some .int), (2, 43), (0, 0))
theorem jc_X7_see : jcode Y_X7_see ∈ jW := tw_967
def Y_X7_unsee : jY := (yX7_unsee, cX7_unsee, 2, (some .int), (0, 0), (0, 0))
theorem jc_X7_unsee : jcode Y_X7_unsee ∈ jW := tw_971
def Y_X7_isSoBy : jY := (yX7_isSoBy, cX7_isSoBy, 3, (some .boolean), (6, 137), (0, 0))
theorem jc_X7_isSoBy : jcode Y_X7_isSoBy ∈ jW := tw_979
def Y_X7_which : jY := (yX7_which, cX7_which, 5, (some .int), (7, 159), (0, 0))
theorem jc_X7_which : jcode Y_X7_which ∈ jW := tw_975
def Y_X7_metersBy : jY := (yX7_metersBy, cX7_metersBy, 2, (some .int), (6, 137), (0, 0))
theorem jc_X7_metersBy : jcode Y_X7_metersBy ∈ jW := tw_987
def Y_X7_share : jY := (yX7_share, cX7_share, 6, (some .int), (7, 158), (0, 0))
theorem jc_X7_share : jcode Y_X7_share ∈ jW := tw_983
def Y_X7_chance : jY := (yX7_chance, cX7_chance, 6, (some .int), (6, 137), (0, 0))
theorem jc_X7_chance : jcode Y_X7_chance ∈ jW := tw_997
def Y_X7_seed : jY := (yX7_seed, cX7_seed, 5, (some .long), (0, 0), (0, 0))
theorem jc_X7_seed : jcode Y_X7_seed ∈ jW := tw_1001
def Y_X7_drawn : jY := (yX7_drawn, cX7_drawn, 7, (some .int), (5, 114), (0, 0))
theorem jc_X7_drawn : jcode Y_X7_drawn ∈ jW := tw_1005
def Y_X7_keep : jY := (yX7_keep, cX7_keep, 3, (some .int), (1, 22), (0, 0))
theorem jc_X7_keep : jcode Y_X7_keep ∈ jW := tw_1011
def Y_X7_again : jY := (yX7_again, cX7_again, 3, (some .int), (1, 22), (0, 0))
theorem jc_X7_again : jcode Y_X7_again ∈ jW := tw_1015
def Y_J9_abs_0f7a4 : jY := (yJ9_abs_0f7a4, cJ9_abs_0f7a4, 1, (some .int), (0, 0), (0, 0))
theorem jc_J9_abs_0f7a4 : jcode Y_J9_abs_0f7a4 ∈ jW := tw_574
def Y_J9_max_7cf53 : jY := (yJ9_max_7cf53, cJ9_max_7cf53, 2, (some .int), (0, 0), (0, 0))
theorem jc_J9_max_7cf53 : jcode Y_J9_max_7cf53 ∈ jW := tw_389
def Y_J9_min_7cf53 : jY := (yJ9_min_7cf53, cJ9_min_7cf53, 2, (some .int), (0, 0), (0, 0))
theorem jc_J9_min_7cf53 : jcode Y_J9_min_7cf53 ∈ jW := tw_378
def Y_L_law : jY := (yL_law, cL_law, 4, (some .boolean), (8, 192), (94, 1863))
