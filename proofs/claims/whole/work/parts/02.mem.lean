theorem kj_0 : (Jvm.Cond.selects "CacheYard$Cache" ({ cls := "CacheYard$Cache", name := "emptyAll", desc := "()V" } : Jvm.MethodName) ({ cls := "CacheYard$Cache", name := "emptyAll", desc := "()V" } : Jvm.MethodName)) ∈ kw_all := List.mem_of_getElem? (i := 0) rfl
theorem kj_1 : (Jvm.Cond.selects "CacheYard$Cache" ({ cls := "CacheYard$Cache", name := "countSets", desc := "()I" } : Jvm.MethodName) ({ cls := "CacheYard$Cache", name := "countSets", desc := "()I" } : Jvm.MethodName)) ∈ kw_all := List.mem_of_getElem? (i := 1) rfl
theorem kj_2 : (Jvm.Cond.selects "CacheYard$Cache" ({ cls := "CacheYard$Cache", name := "findPlace", desc := "(II)I" } : Jvm.MethodName) ({ cls := "CacheYard$Cache", name := "findPlace", desc := "(II)I" } : Jvm.MethodName)) ∈ kw_all := List.mem_of_getElem? (i := 2) rfl
theorem kj_3 : (Jvm.Cond.selects "CacheYard$Cache" ({ cls := "CacheYard$Cache", name := "slotOf", desc := "(II)I" } : Jvm.MethodName) ({ cls := "CacheYard$Cache", name := "slotOf", desc := "(II)I" } : Jvm.MethodName)) ∈ kw_all := List.mem_of_getElem? (i := 3) rfl
theorem kj_4 : (Jvm.Cond.selects "CacheYard$Cache" ({ cls := "CacheYard$Cache", name := "bringIn", desc := "(II)I" } : Jvm.MethodName) ({ cls := "CacheYard$Cache", name := "bringIn", desc := "(II)I" } : Jvm.MethodName)) ∈ kw_all := List.mem_of_getElem? (i := 4) rfl
theorem kj_5 : (Jvm.Cond.selects "CacheYard$Cache" ({ cls := "CacheYard$Cache", name := "pointedPlace", desc := "(I)I" } : Jvm.MethodName) ({ cls := "CacheYard$Cache", name := "pointedPlace", desc := "(I)I" } : Jvm.MethodName)) ∈ kw_all := List.mem_of_getElem? (i := 5) rfl
theorem kj_6 : (Jvm.Cond.selects "CacheYard$Cache" ({ cls := "CacheYard$Cache", name := "oldestPlace", desc := "(I)I" } : Jvm.MethodName) ({ cls := "CacheYard$Cache", name := "oldestPlace", desc := "(I)I" } : Jvm.MethodName)) ∈ kw_all := List.mem_of_getElem? (i := 6) rfl
theorem kj_7 : (Jvm.Cond.selects "CacheYard$Cache" ({ cls := "CacheYard$Cache", name := "pointAway", desc := "(II)V" } : Jvm.MethodName) ({ cls := "CacheYard$Cache", name := "pointAway", desc := "(II)V" } : Jvm.MethodName)) ∈ kw_all := List.mem_of_getElem? (i := 7) rfl
theorem kj_8 : (Jvm.Cond.selects "CacheYard" ({ cls := "CacheYard", name := "madeCache", desc := "(I)LCacheYard$Cache;" } : Jvm.MethodName) ({ cls := "CacheYard", name := "madeCache", desc := "(I)LCacheYard$Cache;" } : Jvm.MethodName)) ∈ kw_all := List.mem_of_getElem? (i := 8) rfl
theorem kj_9 : (Jvm.Cond.selects "CacheYard$Row" ({ cls := "CacheYard$Row", name := "findNextUses", desc := "(I)V" } : Jvm.MethodName) ({ cls := "CacheYard$Row", name := "findNextUses", desc := "(I)V" } : Jvm.MethodName)) ∈ kw_all := List.mem_of_getElem? (i := 9) rfl
theorem kj_10 : (Jvm.Cond.selects "CacheYard$Row" ({ cls := "CacheYard$Row", name := "findLine", desc := "(II)I" } : Jvm.MethodName) ({ cls := "CacheYard$Row", name := "findLine", desc := "(II)I" } : Jvm.MethodName)) ∈ kw_all := List.mem_of_getElem? (i := 10) rfl
theorem kj_11 : (Jvm.Cond.selects "CacheYard$Row" ({ cls := "CacheYard$Row", name := "lineNeededLast", desc := "(I)I" } : Jvm.MethodName) ({ cls := "CacheYard$Row", name := "lineNeededLast", desc := "(I)I" } : Jvm.MethodName)) ∈ kw_all := List.mem_of_getElem? (i := 11) rfl
theorem kj_12 : (Jvm.Cond.selects "CacheYard$Row" ({ cls := "CacheYard$Row", name := "bringToFront", desc := "(II)V" } : Jvm.MethodName) ({ cls := "CacheYard$Row", name := "bringToFront", desc := "(II)V" } : Jvm.MethodName)) ∈ kw_all := List.mem_of_getElem? (i := 12) rfl
theorem kj_13 : (Jvm.Cond.selects "CacheYardModel" ({ cls := "CacheYardModel", name := "refuse", desc := "(ZZZ)Z" } : Jvm.MethodName) ({ cls := "CacheYardModel", name := "refuse", desc := "(ZZZ)Z" } : Jvm.MethodName)) ∈ kw_all := List.mem_of_getElem? (i := 13) rfl
theorem kj_14 : (Jvm.Cond.selects "CacheYardModel" ({ cls := "CacheYardModel", name := "empty", desc := "(I)V" } : Jvm.MethodName) ({ cls := "CacheYardModel", name := "empty", desc := "(I)V" } : Jvm.MethodName)) ∈ kw_all := List.mem_of_getElem? (i := 14) rfl
theorem kj_15 : (Jvm.Cond.selects "CacheYardModel" ({ cls := "CacheYardModel", name := "see", desc := "(IIZ)Z" } : Jvm.MethodName) ({ cls := "CacheYardModel", name := "see", desc := "(IIZ)Z" } : Jvm.MethodName)) ∈ kw_all := List.mem_of_getElem? (i := 15) rfl
theorem kj_16 : (Jvm.Cond.selects "CacheYardModel" ({ cls := "CacheYardModel", name := "placeOf", desc := "(III)I" } : Jvm.MethodName) ({ cls := "CacheYardModel", name := "placeOf", desc := "(III)I" } : Jvm.MethodName)) ∈ kw_all := List.mem_of_getElem? (i := 16) rfl
theorem kj_17 : (Jvm.Cond.selects "CacheYardModel" ({ cls := "CacheYardModel", name := "victimOf", desc := "(II)I" } : Jvm.MethodName) ({ cls := "CacheYardModel", name := "victimOf", desc := "(II)I" } : Jvm.MethodName)) ∈ kw_all := List.mem_of_getElem? (i := 17) rfl
theorem kj_18 : (Jvm.Cond.selects "CacheYardModel" ({ cls := "CacheYardModel", name := "pointed", desc := "(II)I" } : Jvm.MethodName) ({ cls := "CacheYardModel", name := "pointed", desc := "(II)I" } : Jvm.MethodName)) ∈ kw_all := List.mem_of_getElem? (i := 18) rfl
theorem kj_19 : (Jvm.Cond.selects "CacheYardModel" ({ cls := "CacheYardModel", name := "turn", desc := "(III)V" } : Jvm.MethodName) ({ cls := "CacheYardModel", name := "turn", desc := "(III)V" } : Jvm.MethodName)) ∈ kw_all := List.mem_of_getElem? (i := 19) rfl
theorem kj_20 : (Jvm.Cond.selects "CacheYardModel" ({ cls := "CacheYardModel", name := "isThere", desc := "(I)Z" } : Jvm.MethodName) ({ cls := "CacheYardModel", name := "isThere", desc := "(I)Z" } : Jvm.MethodName)) ∈ kw_all := List.mem_of_getElem? (i := 20) rfl
theorem kj_21 : (Jvm.Cond.selects "CacheYardModel" ({ cls := "CacheYardModel", name := "count", desc := "(IZ)I" } : Jvm.MethodName) ({ cls := "CacheYardModel", name := "count", desc := "(IZ)I" } : Jvm.MethodName)) ∈ kw_all := List.mem_of_getElem? (i := 21) rfl
theorem kj_22 : (Jvm.Cond.selects "CacheYardModel" ({ cls := "CacheYardModel", name := "comes", desc := "(III)Z" } : Jvm.MethodName) ({ cls := "CacheYardModel", name := "comes", desc := "(III)Z" } : Jvm.MethodName)) ∈ kw_all := List.mem_of_getElem? (i := 22) rfl
theorem kj_23 : (Jvm.Cond.selects "CacheYardModel" ({ cls := "CacheYardModel", name := "nextOf", desc := "(II)I" } : Jvm.MethodName) ({ cls := "CacheYardModel", name := "nextOf", desc := "(II)I" } : Jvm.MethodName)) ∈ kw_all := List.mem_of_getElem? (i := 23) rfl
theorem kj_24 : (Jvm.Cond.initialized "CacheYardLaw") ∈ kw_all := List.mem_of_getElem? (i := 24) rfl
theorem kj_25 : (Jvm.Cond.initialized "CacheYard") ∈ kw_all := List.mem_of_getElem? (i := 25) rfl
theorem kj_26 : (Jvm.Cond.initialized "CacheYard$Row") ∈ kw_all := List.mem_of_getElem? (i := 26) rfl
theorem kj_27 : (Jvm.Cond.initialized "CacheYardModel") ∈ kw_all := List.mem_of_getElem? (i := 27) rfl
theorem kj_28 : (Jvm.Cond.initialized "java/lang/Throwable") ∈ kw_all := List.mem_of_getElem? (i := 28) rfl
theorem kj_29 : (Jvm.Cond.initialized "java/lang/Exception") ∈ kw_all := List.mem_of_getElem? (i := 29) rfl
theorem kj_30 : (Jvm.Cond.initialized "java/lang/RuntimeException") ∈ kw_all := List.mem_of_getElem? (i := 30) rfl
theorem kj_31 : (Jvm.Cond.initialized "java/lang/IllegalArgumentException") ∈ kw_all := List.mem_of_getElem? (i := 31) rfl
theorem kj_32 : (Jvm.Cond.initialized "java/lang/Integer") ∈ kw_all := List.mem_of_getElem? (i := 32) rfl
theorem kj_33 : (Jvm.Cond.initialized "CacheYard$Cache") ∈ kw_all := List.mem_of_getElem? (i := 33) rfl
theorem kj_34 : (Jvm.Cond.initialized "java/lang/UnsupportedOperationException") ∈ kw_all := List.mem_of_getElem? (i := 34) rfl
theorem kj_35 : (Jvm.Cond.initialized "java/util/NoSuchElementException") ∈ kw_all := List.mem_of_getElem? (i := 35) rfl
theorem kj_36 : (Jvm.Cond.initialized "java/lang/IndexOutOfBoundsException") ∈ kw_all := List.mem_of_getElem? (i := 36) rfl
theorem kj_37 : (Jvm.Cond.classLink "CacheYardLaw" (8 : Nat) "CacheYard") ∈ kw_all := List.mem_of_getElem? (i := 37) rfl
theorem kj_38 : (Jvm.Cond.instantiable "CacheYard" (2 : Nat)) ∈ kw_all := List.mem_of_getElem? (i := 38) rfl
theorem kj_39 : (Jvm.Cond.methodLink "CacheYardLaw" (43 : Nat) ({ cls := "CacheYard", name := "<init>", desc := "()V" } : Jvm.MethodName)) ∈ kw_all := List.mem_of_getElem? (i := 39) rfl
theorem kj_40 : (Jvm.Cond.instanceMethod ({ cls := "CacheYard", name := "<init>", desc := "()V" } : Jvm.MethodName)) ∈ kw_all := List.mem_of_getElem? (i := 40) rfl
theorem kj_41 : (Jvm.Cond.code ({ cls := "CacheYard", name := "<init>", desc := "()V" } : Jvm.MethodName) prog_1_method_1_code (1 : Nat) (Option.none : Option Jvm.ClassFile.FieldType)) ∈ kw_all := List.mem_of_getElem? (i := 41) rfl
theorem kj_42 : (Jvm.Cond.methodLink "CacheYard" (1 : Nat) ({ cls := "java/lang/Object", name := "<init>", desc := "()V" } : Jvm.MethodName)) ∈ kw_all := List.mem_of_getElem? (i := 42) rfl
theorem kj_43 : (Jvm.Cond.instanceMethod ({ cls := "java/lang/Object", name := "<init>", desc := "()V" } : Jvm.MethodName)) ∈ kw_all := List.mem_of_getElem? (i := 43) rfl
theorem kj_44 : (Jvm.Cond.code ({ cls := "java/lang/Object", name := "<init>", desc := "()V" } : Jvm.MethodName) object_method_1_code (1 : Nat) (Option.none : Option Jvm.ClassFile.FieldType)) ∈ kw_all := List.mem_of_getElem? (i := 44) rfl
theorem kj_45 : (Jvm.Cond.classLink "CacheYard" (9 : Nat) "CacheYard$Cache") ∈ kw_all := List.mem_of_getElem? (i := 45) rfl
theorem kj_46 : (Jvm.Cond.classLink "CacheYard" (15 : Nat) "CacheYard$Row") ∈ kw_all := List.mem_of_getElem? (i := 46) rfl
theorem kj_47 : (Jvm.Cond.instantiable "CacheYard$Row" (5 : Nat)) ∈ kw_all := List.mem_of_getElem? (i := 47) rfl
theorem kj_48 : (Jvm.Cond.instanceMethod ({ cls := "CacheYard$Row", name := "<init>", desc := "()V" } : Jvm.MethodName)) ∈ kw_all := List.mem_of_getElem? (i := 48) rfl
theorem kj_49 : (Jvm.Cond.code ({ cls := "CacheYard$Row", name := "<init>", desc := "()V" } : Jvm.MethodName) prog_3_method_1_code (1 : Nat) (Option.none : Option Jvm.ClassFile.FieldType)) ∈ kw_all := List.mem_of_getElem? (i := 49) rfl
theorem kj_50 : (Jvm.Cond.methodLink "CacheYard$Row" (3 : Nat) ({ cls := "java/lang/Object", name := "<init>", desc := "()V" } : Jvm.MethodName)) ∈ kw_all := List.mem_of_getElem? (i := 50) rfl
theorem kj_51 : (Jvm.Cond.fieldLink "CacheYard$Row" (9 : Nat) "CacheYard$Row" "addresses" "[I") ∈ kw_all := List.mem_of_getElem? (i := 51) rfl
theorem kj_52 : (Jvm.Cond.fieldLink "CacheYard$Row" (24 : Nat) "CacheYard$Row" "count" "I") ∈ kw_all := List.mem_of_getElem? (i := 52) rfl
theorem kj_53 : (Jvm.Cond.fieldLink "CacheYard$Row" (15 : Nat) "CacheYard$Row" "nextUses" "[I") ∈ kw_all := List.mem_of_getElem? (i := 53) rfl
theorem kj_54 : (Jvm.Cond.fieldLink "CacheYard$Row" (18 : Nat) "CacheYard$Row" "firstUses" "[I") ∈ kw_all := List.mem_of_getElem? (i := 54) rfl
theorem kj_55 : (Jvm.Cond.fieldLink "CacheYard$Row" (21 : Nat) "CacheYard$Row" "lineUses" "[I") ∈ kw_all := List.mem_of_getElem? (i := 55) rfl
theorem kj_56 : (Jvm.Cond.laysFinal "CacheYard$Row" "CacheYard$Row" "addresses" "[I") ∈ kw_all := List.mem_of_getElem? (i := 56) rfl
theorem kj_57 : (Jvm.Cond.lays "CacheYard$Row" "CacheYard$Row" "count" "I") ∈ kw_all := List.mem_of_getElem? (i := 57) rfl
theorem kj_58 : (Jvm.Cond.laysFinal "CacheYard$Row" "CacheYard$Row" "nextUses" "[I") ∈ kw_all := List.mem_of_getElem? (i := 58) rfl
theorem kj_59 : (Jvm.Cond.laysFinal "CacheYard$Row" "CacheYard$Row" "firstUses" "[I") ∈ kw_all := List.mem_of_getElem? (i := 59) rfl
theorem kj_60 : (Jvm.Cond.laysFinal "CacheYard$Row" "CacheYard$Row" "lineUses" "[I") ∈ kw_all := List.mem_of_getElem? (i := 60) rfl
theorem kj_61 : (Jvm.Cond.arrayClass Jvm.ClassFile.FieldType.int) ∈ kw_all := List.mem_of_getElem? (i := 61) rfl
theorem kj_62 : (Jvm.Cond.fieldLink "CacheYard" (11 : Nat) "CacheYard" "caches" "[LCacheYard$Cache;") ∈ kw_all := List.mem_of_getElem? (i := 62) rfl
theorem kj_63 : (Jvm.Cond.fieldLink "CacheYard" (18 : Nat) "CacheYard" "row" "LCacheYard$Row;") ∈ kw_all := List.mem_of_getElem? (i := 63) rfl
theorem kj_64 : (Jvm.Cond.laysFinal "CacheYard" "CacheYard" "caches" "[LCacheYard$Cache;") ∈ kw_all := List.mem_of_getElem? (i := 64) rfl
theorem kj_65 : (Jvm.Cond.laysFinal "CacheYard" "CacheYard" "row" "LCacheYard$Row;") ∈ kw_all := List.mem_of_getElem? (i := 65) rfl
theorem kj_66 : (Jvm.Cond.methodLink "CacheYardLaw" (73 : Nat) ({ cls := "CacheYard", name := "accesses", desc := "()I" } : Jvm.MethodName)) ∈ kw_all := List.mem_of_getElem? (i := 66) rfl
theorem kj_67 : (Jvm.Cond.instanceMethod ({ cls := "CacheYard", name := "accesses", desc := "()I" } : Jvm.MethodName)) ∈ kw_all := List.mem_of_getElem? (i := 67) rfl
theorem kj_68 : (Jvm.Cond.selects "CacheYard" ({ cls := "CacheYard", name := "accesses", desc := "()I" } : Jvm.MethodName) ({ cls := "CacheYard", name := "accesses", desc := "()I" } : Jvm.MethodName)) ∈ kw_all := List.mem_of_getElem? (i := 68) rfl
theorem kj_69 : (Jvm.Cond.code ({ cls := "CacheYard", name := "accesses", desc := "()I" } : Jvm.MethodName) prog_1_method_7_code (1 : Nat) (Option.some Jvm.ClassFile.FieldType.int)) ∈ kw_all := List.mem_of_getElem? (i := 69) rfl
theorem kj_70 : (Jvm.Cond.methodLink "CacheYard" (56 : Nat) ({ cls := "CacheYard$Row", name := "length", desc := "()I" } : Jvm.MethodName)) ∈ kw_all := List.mem_of_getElem? (i := 70) rfl
theorem kj_71 : (Jvm.Cond.instanceMethod ({ cls := "CacheYard$Row", name := "length", desc := "()I" } : Jvm.MethodName)) ∈ kw_all := List.mem_of_getElem? (i := 71) rfl
theorem kj_72 : (Jvm.Cond.selects "CacheYard$Row" ({ cls := "CacheYard$Row", name := "length", desc := "()I" } : Jvm.MethodName) ({ cls := "CacheYard$Row", name := "length", desc := "()I" } : Jvm.MethodName)) ∈ kw_all := List.mem_of_getElem? (i := 72) rfl
theorem kj_73 : (Jvm.Cond.code ({ cls := "CacheYard$Row", name := "length", desc := "()I" } : Jvm.MethodName) prog_3_method_2_code (1 : Nat) (Option.some Jvm.ClassFile.FieldType.int)) ∈ kw_all := List.mem_of_getElem? (i := 73) rfl
theorem kj_74 : (Jvm.Cond.methodLink "CacheYardLaw" (47 : Nat) ({ cls := "CacheYardLaw", name := "make", desc := "(LCacheYard;IIIII)I" } : Jvm.MethodName)) ∈ kw_all := List.mem_of_getElem? (i := 74) rfl
theorem kj_75 : (Jvm.Cond.static ({ cls := "CacheYardLaw", name := "make", desc := "(LCacheYard;IIIII)I" } : Jvm.MethodName)) ∈ kw_all := List.mem_of_getElem? (i := 75) rfl
theorem kj_76 : (Jvm.Cond.codeWith ({ cls := "CacheYardLaw", name := "make", desc := "(LCacheYard;IIIII)I" } : Jvm.MethodName) method_3_code (7 : Nat) (Option.some Jvm.ClassFile.FieldType.int) [((0 : Nat), (11 : Nat), (14 : Nat), (13 : Nat))]) ∈ kw_all := List.mem_of_getElem? (i := 76) rfl
theorem kj_77 : (Jvm.Cond.classLink "CacheYardLaw" (13 : Nat) "java/lang/IllegalArgumentException") ∈ kw_all := List.mem_of_getElem? (i := 77) rfl
theorem kj_78 : (Jvm.Cond.methodLink "CacheYardLaw" (7 : Nat) ({ cls := "CacheYard", name := "make", desc := "(IIIII)V" } : Jvm.MethodName)) ∈ kw_all := List.mem_of_getElem? (i := 78) rfl
theorem kj_79 : (Jvm.Cond.instanceMethod ({ cls := "CacheYard", name := "make", desc := "(IIIII)V" } : Jvm.MethodName)) ∈ kw_all := List.mem_of_getElem? (i := 79) rfl
theorem kj_80 : (Jvm.Cond.selects "CacheYard" ({ cls := "CacheYard", name := "make", desc := "(IIIII)V" } : Jvm.MethodName) ({ cls := "CacheYard", name := "make", desc := "(IIIII)V" } : Jvm.MethodName)) ∈ kw_all := List.mem_of_getElem? (i := 80) rfl
theorem kj_81 : (Jvm.Cond.code ({ cls := "CacheYard", name := "make", desc := "(IIIII)V" } : Jvm.MethodName) prog_1_method_2_code (7 : Nat) (Option.none : Option Jvm.ClassFile.FieldType)) ∈ kw_all := List.mem_of_getElem? (i := 81) rfl
theorem kj_82 : (Jvm.Cond.classLink "CacheYard" (22 : Nat) "java/lang/IllegalArgumentException") ∈ kw_all := List.mem_of_getElem? (i := 82) rfl
theorem kj_83 : (Jvm.Cond.instantiable "java/lang/IllegalArgumentException" (6 : Nat)) ∈ kw_all := List.mem_of_getElem? (i := 83) rfl
theorem kj_84 : (Jvm.Cond.selects "java/lang/IllegalArgumentException" ({ cls := "java/lang/Throwable", name := "fillInStackTrace", desc := "(I)Ljava/lang/Throwable;" } : Jvm.MethodName) ({ cls := "java/lang/Throwable", name := "fillInStackTrace", desc := "(I)Ljava/lang/Throwable;" } : Jvm.MethodName)) ∈ kw_all := List.mem_of_getElem? (i := 84) rfl
theorem kj_85 : (Jvm.Cond.selects "java/lang/IllegalArgumentException" ({ cls := "java/lang/Throwable", name := "fillInStackTrace", desc := "()Ljava/lang/Throwable;" } : Jvm.MethodName) ({ cls := "java/lang/Throwable", name := "fillInStackTrace", desc := "()Ljava/lang/Throwable;" } : Jvm.MethodName)) ∈ kw_all := List.mem_of_getElem? (i := 85) rfl
theorem kj_86 : (Jvm.Cond.lays "java/lang/IllegalArgumentException" "java/lang/Throwable" "cause" "Ljava/lang/Throwable;") ∈ kw_all := List.mem_of_getElem? (i := 86) rfl
theorem kj_87 : (Jvm.Cond.lays "java/lang/Throwable" "java/lang/Throwable" "cause" "Ljava/lang/Throwable;") ∈ kw_all := List.mem_of_getElem? (i := 87) rfl
theorem kj_88 : (Jvm.Cond.lays "java/lang/IllegalArgumentException" "java/lang/Throwable" "stackTrace" "[Ljava/lang/StackTraceElement;") ∈ kw_all := List.mem_of_getElem? (i := 88) rfl
theorem kj_89 : (Jvm.Cond.lays "java/lang/Throwable" "java/lang/Throwable" "stackTrace" "[Ljava/lang/StackTraceElement;") ∈ kw_all := List.mem_of_getElem? (i := 89) rfl
theorem kj_90 : (Jvm.Cond.lays "java/lang/IllegalArgumentException" "java/lang/Throwable" "suppressedExceptions" "Ljava/util/List;") ∈ kw_all := List.mem_of_getElem? (i := 90) rfl
theorem kj_91 : (Jvm.Cond.lays "java/lang/Throwable" "java/lang/Throwable" "suppressedExceptions" "Ljava/util/List;") ∈ kw_all := List.mem_of_getElem? (i := 91) rfl
theorem kj_92 : (Jvm.Cond.lays "java/lang/IllegalArgumentException" "java/lang/Throwable" "detailMessage" "Ljava/lang/String;") ∈ kw_all := List.mem_of_getElem? (i := 92) rfl
theorem kj_93 : (Jvm.Cond.lays "java/lang/Throwable" "java/lang/Throwable" "detailMessage" "Ljava/lang/String;") ∈ kw_all := List.mem_of_getElem? (i := 93) rfl
theorem kj_94 : (Jvm.Cond.lays "java/lang/IllegalArgumentException" "java/lang/Throwable" "backtrace" "Ljava/lang/Object;") ∈ kw_all := List.mem_of_getElem? (i := 94) rfl
theorem kj_95 : (Jvm.Cond.lays "java/lang/Throwable" "java/lang/Throwable" "backtrace" "Ljava/lang/Object;") ∈ kw_all := List.mem_of_getElem? (i := 95) rfl
theorem kj_96 : (Jvm.Cond.fieldLink "java/lang/Throwable" (198 : Nat) "java/lang/Throwable" "backtrace" "Ljava/lang/Object;") ∈ kw_all := List.mem_of_getElem? (i := 96) rfl
theorem kj_97 : (Jvm.Cond.instanceMethod ({ cls := "java/lang/Throwable", name := "<init>", desc := "()V" } : Jvm.MethodName)) ∈ kw_all := List.mem_of_getElem? (i := 97) rfl
theorem kj_98 : (Jvm.Cond.code ({ cls := "java/lang/Throwable", name := "<init>", desc := "()V" } : Jvm.MethodName) prog_12_method_1_code (1 : Nat) (Option.none : Option Jvm.ClassFile.FieldType)) ∈ kw_all := List.mem_of_getElem? (i := 98) rfl
theorem kj_99 : (Jvm.Cond.methodLink "java/lang/Throwable" (1 : Nat) ({ cls := "java/lang/Object", name := "<init>", desc := "()V" } : Jvm.MethodName)) ∈ kw_all := List.mem_of_getElem? (i := 99) rfl
theorem kj_100 : (Jvm.Cond.fieldLink "java/lang/Throwable" (13 : Nat) "java/lang/Throwable" "UNASSIGNED_STACK" "[Ljava/lang/StackTraceElement;") ∈ kw_all := List.mem_of_getElem? (i := 100) rfl
theorem kj_101 : (Jvm.Cond.fieldLink "java/lang/Throwable" (20 : Nat) "java/lang/Throwable" "SUPPRESSED_SENTINEL" "Ljava/util/List;") ∈ kw_all := List.mem_of_getElem? (i := 101) rfl
theorem kj_102 : (Jvm.Cond.methodLink "java/lang/Throwable" (27 : Nat) ({ cls := "java/lang/Throwable", name := "fillInStackTrace", desc := "()Ljava/lang/Throwable;" } : Jvm.MethodName)) ∈ kw_all := List.mem_of_getElem? (i := 102) rfl
theorem kj_103 : (Jvm.Cond.instanceMethod ({ cls := "java/lang/Throwable", name := "fillInStackTrace", desc := "()Ljava/lang/Throwable;" } : Jvm.MethodName)) ∈ kw_all := List.mem_of_getElem? (i := 103) rfl
theorem kj_104 : (Jvm.Cond.selects "java/lang/IndexOutOfBoundsException" ({ cls := "java/lang/Throwable", name := "fillInStackTrace", desc := "()Ljava/lang/Throwable;" } : Jvm.MethodName) ({ cls := "java/lang/Throwable", name := "fillInStackTrace", desc := "()Ljava/lang/Throwable;" } : Jvm.MethodName)) ∈ kw_all := List.mem_of_getElem? (i := 104) rfl
theorem kj_105 : (Jvm.Cond.selects "java/lang/UnsupportedOperationException" ({ cls := "java/lang/Throwable", name := "fillInStackTrace", desc := "()Ljava/lang/Throwable;" } : Jvm.MethodName) ({ cls := "java/lang/Throwable", name := "fillInStackTrace", desc := "()Ljava/lang/Throwable;" } : Jvm.MethodName)) ∈ kw_all := List.mem_of_getElem? (i := 105) rfl
theorem kj_106 : (Jvm.Cond.selects "java/util/NoSuchElementException" ({ cls := "java/lang/Throwable", name := "fillInStackTrace", desc := "()Ljava/lang/Throwable;" } : Jvm.MethodName) ({ cls := "java/lang/Throwable", name := "fillInStackTrace", desc := "()Ljava/lang/Throwable;" } : Jvm.MethodName)) ∈ kw_all := List.mem_of_getElem? (i := 106) rfl
theorem kj_107 : (Jvm.Cond.methodLink "java/lang/Throwable" (202 : Nat) ({ cls := "java/lang/Throwable", name := "fillInStackTrace", desc := "(I)Ljava/lang/Throwable;" } : Jvm.MethodName)) ∈ kw_all := List.mem_of_getElem? (i := 107) rfl
theorem kj_108 : (Jvm.Cond.instanceMethod ({ cls := "java/lang/Throwable", name := "fillInStackTrace", desc := "(I)Ljava/lang/Throwable;" } : Jvm.MethodName)) ∈ kw_all := List.mem_of_getElem? (i := 108) rfl
theorem kj_109 : (Jvm.Cond.instantiable "java/lang/Throwable" (6 : Nat)) ∈ kw_all := List.mem_of_getElem? (i := 109) rfl
theorem kj_110 : (Jvm.Cond.methodLink "CacheYard" (26 : Nat) ({ cls := "java/lang/IllegalArgumentException", name := "<init>", desc := "(Ljava/lang/String;)V" } : Jvm.MethodName)) ∈ kw_all := List.mem_of_getElem? (i := 110) rfl
theorem kj_111 : (Jvm.Cond.instanceMethod ({ cls := "java/lang/IllegalArgumentException", name := "<init>", desc := "(Ljava/lang/String;)V" } : Jvm.MethodName)) ∈ kw_all := List.mem_of_getElem? (i := 111) rfl
theorem kj_112 : (Jvm.Cond.code ({ cls := "java/lang/IllegalArgumentException", name := "<init>", desc := "(Ljava/lang/String;)V" } : Jvm.MethodName) prog_7_method_2_code (2 : Nat) (Option.none : Option Jvm.ClassFile.FieldType)) ∈ kw_all := List.mem_of_getElem? (i := 112) rfl
theorem kj_113 : (Jvm.Cond.methodLink "java/lang/IllegalArgumentException" (7 : Nat) ({ cls := "java/lang/RuntimeException", name := "<init>", desc := "(Ljava/lang/String;)V" } : Jvm.MethodName)) ∈ kw_all := List.mem_of_getElem? (i := 113) rfl
theorem kj_114 : (Jvm.Cond.instanceMethod ({ cls := "java/lang/RuntimeException", name := "<init>", desc := "(Ljava/lang/String;)V" } : Jvm.MethodName)) ∈ kw_all := List.mem_of_getElem? (i := 114) rfl
theorem kj_115 : (Jvm.Cond.code ({ cls := "java/lang/RuntimeException", name := "<init>", desc := "(Ljava/lang/String;)V" } : Jvm.MethodName) prog_10_method_2_code (2 : Nat) (Option.none : Option Jvm.ClassFile.FieldType)) ∈ kw_all := List.mem_of_getElem? (i := 115) rfl
theorem kj_116 : (Jvm.Cond.methodLink "java/lang/RuntimeException" (7 : Nat) ({ cls := "java/lang/Exception", name := "<init>", desc := "(Ljava/lang/String;)V" } : Jvm.MethodName)) ∈ kw_all := List.mem_of_getElem? (i := 116) rfl
theorem kj_117 : (Jvm.Cond.instanceMethod ({ cls := "java/lang/Exception", name := "<init>", desc := "(Ljava/lang/String;)V" } : Jvm.MethodName)) ∈ kw_all := List.mem_of_getElem? (i := 117) rfl
theorem kj_118 : (Jvm.Cond.code ({ cls := "java/lang/Exception", name := "<init>", desc := "(Ljava/lang/String;)V" } : Jvm.MethodName) prog_6_method_2_code (2 : Nat) (Option.none : Option Jvm.ClassFile.FieldType)) ∈ kw_all := List.mem_of_getElem? (i := 118) rfl
theorem kj_119 : (Jvm.Cond.methodLink "java/lang/Exception" (7 : Nat) ({ cls := "java/lang/Throwable", name := "<init>", desc := "(Ljava/lang/String;)V" } : Jvm.MethodName)) ∈ kw_all := List.mem_of_getElem? (i := 119) rfl
theorem kj_120 : (Jvm.Cond.instanceMethod ({ cls := "java/lang/Throwable", name := "<init>", desc := "(Ljava/lang/String;)V" } : Jvm.MethodName)) ∈ kw_all := List.mem_of_getElem? (i := 120) rfl
theorem kj_121 : (Jvm.Cond.code ({ cls := "java/lang/Throwable", name := "<init>", desc := "(Ljava/lang/String;)V" } : Jvm.MethodName) prog_12_method_2_code (2 : Nat) (Option.none : Option Jvm.ClassFile.FieldType)) ∈ kw_all := List.mem_of_getElem? (i := 121) rfl
theorem kj_122 : (Jvm.Cond.fieldLink "java/lang/Throwable" (198 : Nat) "java/lang/Throwable" "backtrace" "Ljava/lang/Object;") ∈ kw_all := List.mem_of_getElem? (i := 122) rfl
theorem kj_123 : (Jvm.Cond.fieldLink "java/lang/Throwable" (31 : Nat) "java/lang/Throwable" "detailMessage" "Ljava/lang/String;") ∈ kw_all := List.mem_of_getElem? (i := 123) rfl
theorem kj_124 : (Jvm.Cond.fieldLink "java/lang/Throwable" (7 : Nat) "java/lang/Throwable" "cause" "Ljava/lang/Throwable;") ∈ kw_all := List.mem_of_getElem? (i := 124) rfl
theorem kj_125 : (Jvm.Cond.fieldLink "java/lang/Throwable" (17 : Nat) "java/lang/Throwable" "stackTrace" "[Ljava/lang/StackTraceElement;") ∈ kw_all := List.mem_of_getElem? (i := 125) rfl
theorem kj_126 : (Jvm.Cond.fieldLink "java/lang/Throwable" (24 : Nat) "java/lang/Throwable" "suppressedExceptions" "Ljava/util/List;") ∈ kw_all := List.mem_of_getElem? (i := 126) rfl
theorem kj_127 : (Jvm.Cond.lays "java/lang/IllegalArgumentException" "java/lang/Throwable" "depth" "I") ∈ kw_all := List.mem_of_getElem? (i := 127) rfl
theorem kj_128 : (Jvm.Cond.arrayClass Jvm.ClassFile.FieldType.byte) ∈ kw_all := List.mem_of_getElem? (i := 128) rfl
theorem kj_129 : (Jvm.Cond.methodLink "CacheYard" (35 : Nat) ({ cls := "java/lang/Integer", name := "bitCount", desc := "(I)I" } : Jvm.MethodName)) ∈ kw_all := List.mem_of_getElem? (i := 129) rfl
theorem kj_130 : (Jvm.Cond.static ({ cls := "java/lang/Integer", name := "bitCount", desc := "(I)I" } : Jvm.MethodName)) ∈ kw_all := List.mem_of_getElem? (i := 130) rfl
theorem kj_131 : (Jvm.Cond.code ({ cls := "java/lang/Integer", name := "bitCount", desc := "(I)I" } : Jvm.MethodName) prog_9_method_49_code (1 : Nat) (Option.some Jvm.ClassFile.FieldType.int)) ∈ kw_all := List.mem_of_getElem? (i := 131) rfl
theorem kj_132 : (Jvm.Cond.constant "java/lang/Integer" (265 : Nat) (1431655765 : Int32)) ∈ kw_all := List.mem_of_getElem? (i := 132) rfl
theorem kj_133 : (Jvm.Cond.constant "java/lang/Integer" (266 : Nat) (858993459 : Int32)) ∈ kw_all := List.mem_of_getElem? (i := 133) rfl
theorem kj_134 : (Jvm.Cond.constant "java/lang/Integer" (267 : Nat) (252645135 : Int32)) ∈ kw_all := List.mem_of_getElem? (i := 134) rfl
theorem kj_135 : (Jvm.Cond.methodLink "CacheYard" (43 : Nat) ({ cls := "CacheYard", name := "areBits", desc := "(I)Z" } : Jvm.MethodName)) ∈ kw_all := List.mem_of_getElem? (i := 135) rfl
theorem kj_136 : (Jvm.Cond.static ({ cls := "CacheYard", name := "areBits", desc := "(I)Z" } : Jvm.MethodName)) ∈ kw_all := List.mem_of_getElem? (i := 136) rfl
theorem kj_137 : (Jvm.Cond.code ({ cls := "CacheYard", name := "areBits", desc := "(I)Z" } : Jvm.MethodName) prog_1_method_12_code (1 : Nat) (Option.some Jvm.ClassFile.FieldType.boolean)) ∈ kw_all := List.mem_of_getElem? (i := 137) rfl
theorem kj_138 : (Jvm.Cond.instantiable "CacheYard$Cache" (12 : Nat)) ∈ kw_all := List.mem_of_getElem? (i := 138) rfl
theorem kj_139 : (Jvm.Cond.instanceMethod ({ cls := "CacheYard$Cache", name := "<init>", desc := "()V" } : Jvm.MethodName)) ∈ kw_all := List.mem_of_getElem? (i := 139) rfl
theorem kj_140 : (Jvm.Cond.code ({ cls := "CacheYard$Cache", name := "<init>", desc := "()V" } : Jvm.MethodName) prog_2_method_1_code (1 : Nat) (Option.none : Option Jvm.ClassFile.FieldType)) ∈ kw_all := List.mem_of_getElem? (i := 140) rfl
theorem kj_141 : (Jvm.Cond.methodLink "CacheYard$Cache" (3 : Nat) ({ cls := "java/lang/Object", name := "<init>", desc := "()V" } : Jvm.MethodName)) ∈ kw_all := List.mem_of_getElem? (i := 141) rfl
theorem kj_142 : (Jvm.Cond.fieldLink "CacheYard$Cache" (25 : Nat) "CacheYard$Cache" "setBits" "I") ∈ kw_all := List.mem_of_getElem? (i := 142) rfl
theorem kj_143 : (Jvm.Cond.fieldLink "CacheYard$Cache" (29 : Nat) "CacheYard$Cache" "places" "I") ∈ kw_all := List.mem_of_getElem? (i := 143) rfl
theorem kj_144 : (Jvm.Cond.fieldLink "CacheYard$Cache" (32 : Nat) "CacheYard$Cache" "kind" "I") ∈ kw_all := List.mem_of_getElem? (i := 144) rfl
theorem kj_145 : (Jvm.Cond.fieldLink "CacheYard$Cache" (35 : Nat) "CacheYard$Cache" "bits" "I") ∈ kw_all := List.mem_of_getElem? (i := 145) rfl
theorem kj_146 : (Jvm.Cond.fieldLink "CacheYard$Cache" (9 : Nat) "CacheYard$Cache" "blocks" "[I") ∈ kw_all := List.mem_of_getElem? (i := 146) rfl
theorem kj_147 : (Jvm.Cond.fieldLink "CacheYard$Cache" (15 : Nat) "CacheYard$Cache" "dirty" "[Z") ∈ kw_all := List.mem_of_getElem? (i := 147) rfl
theorem kj_148 : (Jvm.Cond.fieldLink "CacheYard$Cache" (19 : Nat) "CacheYard$Cache" "stamps" "[I") ∈ kw_all := List.mem_of_getElem? (i := 148) rfl
theorem kj_149 : (Jvm.Cond.fieldLink "CacheYard$Cache" (22 : Nat) "CacheYard$Cache" "trees" "[I") ∈ kw_all := List.mem_of_getElem? (i := 149) rfl
theorem kj_150 : (Jvm.Cond.fieldLink "CacheYard$Cache" (38 : Nat) "CacheYard$Cache" "hits" "I") ∈ kw_all := List.mem_of_getElem? (i := 150) rfl
theorem kj_151 : (Jvm.Cond.fieldLink "CacheYard" (98 : Nat) "CacheYard$Cache" "hits" "I") ∈ kw_all := List.mem_of_getElem? (i := 151) rfl
theorem kj_152 : (Jvm.Cond.fieldLink "CacheYard$Cache" (41 : Nat) "CacheYard$Cache" "misses" "I") ∈ kw_all := List.mem_of_getElem? (i := 152) rfl
theorem kj_153 : (Jvm.Cond.fieldLink "CacheYard" (102 : Nat) "CacheYard$Cache" "misses" "I") ∈ kw_all := List.mem_of_getElem? (i := 153) rfl
theorem kj_154 : (Jvm.Cond.fieldLink "CacheYard$Cache" (44 : Nat) "CacheYard$Cache" "victims" "I") ∈ kw_all := List.mem_of_getElem? (i := 154) rfl
theorem kj_155 : (Jvm.Cond.fieldLink "CacheYard" (105 : Nat) "CacheYard$Cache" "victims" "I") ∈ kw_all := List.mem_of_getElem? (i := 155) rfl
theorem kj_156 : (Jvm.Cond.fieldLink "CacheYard$Cache" (47 : Nat) "CacheYard$Cache" "writtenBack" "I") ∈ kw_all := List.mem_of_getElem? (i := 156) rfl
theorem kj_157 : (Jvm.Cond.fieldLink "CacheYard" (108 : Nat) "CacheYard$Cache" "writtenBack" "I") ∈ kw_all := List.mem_of_getElem? (i := 157) rfl
theorem kj_158 : (Jvm.Cond.lays "CacheYard$Cache" "CacheYard$Cache" "setBits" "I") ∈ kw_all := List.mem_of_getElem? (i := 158) rfl
theorem kj_159 : (Jvm.Cond.lays "CacheYard$Cache" "CacheYard$Cache" "places" "I") ∈ kw_all := List.mem_of_getElem? (i := 159) rfl
theorem kj_160 : (Jvm.Cond.lays "CacheYard$Cache" "CacheYard$Cache" "kind" "I") ∈ kw_all := List.mem_of_getElem? (i := 160) rfl
theorem kj_161 : (Jvm.Cond.lays "CacheYard$Cache" "CacheYard$Cache" "bits" "I") ∈ kw_all := List.mem_of_getElem? (i := 161) rfl
theorem kj_162 : (Jvm.Cond.laysFinal "CacheYard$Cache" "CacheYard$Cache" "blocks" "[I") ∈ kw_all := List.mem_of_getElem? (i := 162) rfl
theorem kj_163 : (Jvm.Cond.laysFinal "CacheYard$Cache" "CacheYard$Cache" "dirty" "[Z") ∈ kw_all := List.mem_of_getElem? (i := 163) rfl
theorem kj_164 : (Jvm.Cond.laysFinal "CacheYard$Cache" "CacheYard$Cache" "stamps" "[I") ∈ kw_all := List.mem_of_getElem? (i := 164) rfl
theorem kj_165 : (Jvm.Cond.laysFinal "CacheYard$Cache" "CacheYard$Cache" "trees" "[I") ∈ kw_all := List.mem_of_getElem? (i := 165) rfl
theorem kj_166 : (Jvm.Cond.lays "CacheYard$Cache" "CacheYard$Cache" "hits" "I") ∈ kw_all := List.mem_of_getElem? (i := 166) rfl
theorem kj_167 : (Jvm.Cond.lays "CacheYard$Cache" "CacheYard$Cache" "misses" "I") ∈ kw_all := List.mem_of_getElem? (i := 167) rfl
theorem kj_168 : (Jvm.Cond.lays "CacheYard$Cache" "CacheYard$Cache" "victims" "I") ∈ kw_all := List.mem_of_getElem? (i := 168) rfl
theorem kj_169 : (Jvm.Cond.lays "CacheYard$Cache" "CacheYard$Cache" "writtenBack" "I") ∈ kw_all := List.mem_of_getElem? (i := 169) rfl
theorem kj_170 : (Jvm.Cond.arrayClass Jvm.ClassFile.FieldType.boolean) ∈ kw_all := List.mem_of_getElem? (i := 170) rfl
theorem kj_171 : (Jvm.Cond.methodLink "CacheYard" (50 : Nat) ({ cls := "CacheYard$Cache", name := "become", desc := "(IIII)V" } : Jvm.MethodName)) ∈ kw_all := List.mem_of_getElem? (i := 171) rfl
theorem kj_172 : (Jvm.Cond.instanceMethod ({ cls := "CacheYard$Cache", name := "become", desc := "(IIII)V" } : Jvm.MethodName)) ∈ kw_all := List.mem_of_getElem? (i := 172) rfl
theorem kj_173 : (Jvm.Cond.selects "CacheYard$Cache" ({ cls := "CacheYard$Cache", name := "become", desc := "(IIII)V" } : Jvm.MethodName) ({ cls := "CacheYard$Cache", name := "become", desc := "(IIII)V" } : Jvm.MethodName)) ∈ kw_all := List.mem_of_getElem? (i := 173) rfl
theorem kj_174 : (Jvm.Cond.code ({ cls := "CacheYard$Cache", name := "become", desc := "(IIII)V" } : Jvm.MethodName) prog_2_method_2_code (5 : Nat) (Option.none : Option Jvm.ClassFile.FieldType)) ∈ kw_all := List.mem_of_getElem? (i := 174) rfl
theorem kj_175 : (Jvm.Cond.methodLink "CacheYard$Cache" (50 : Nat) ({ cls := "CacheYard$Cache", name := "emptyAll", desc := "()V" } : Jvm.MethodName)) ∈ kw_all := List.mem_of_getElem? (i := 175) rfl
theorem kj_176 : (Jvm.Cond.instanceMethod ({ cls := "CacheYard$Cache", name := "emptyAll", desc := "()V" } : Jvm.MethodName)) ∈ kw_all := List.mem_of_getElem? (i := 176) rfl
theorem kj_177 : (Jvm.Cond.code ({ cls := "CacheYard$Cache", name := "emptyAll", desc := "()V" } : Jvm.MethodName) prog_2_method_10_code (2 : Nat) (Option.none : Option Jvm.ClassFile.FieldType)) ∈ kw_all := List.mem_of_getElem? (i := 177) rfl
theorem kj_178 : (Jvm.Cond.methodLink "CacheYardLaw" (57 : Nat) ({ cls := "CacheYardLaw", name := "access", desc := "(LCacheYard;IZ[J)I" } : Jvm.MethodName)) ∈ kw_all := List.mem_of_getElem? (i := 178) rfl
theorem kj_179 : (Jvm.Cond.static ({ cls := "CacheYardLaw", name := "access", desc := "(LCacheYard;IZ[J)I" } : Jvm.MethodName)) ∈ kw_all := List.mem_of_getElem? (i := 179) rfl
theorem kj_180 : (Jvm.Cond.codeWith ({ cls := "CacheYardLaw", name := "access", desc := "(LCacheYard;IZ[J)I" } : Jvm.MethodName) method_4_code (5 : Nat) (Option.some Jvm.ClassFile.FieldType.int) [((0 : Nat), (10 : Nat), (13 : Nat), (13 : Nat)), ((0 : Nat), (10 : Nat), (17 : Nat), (19 : Nat))]) ∈ kw_all := List.mem_of_getElem? (i := 180) rfl
theorem kj_181 : (Jvm.Cond.classLink "CacheYardLaw" (19 : Nat) "java/lang/UnsupportedOperationException") ∈ kw_all := List.mem_of_getElem? (i := 181) rfl
theorem kj_182 : (Jvm.Cond.methodLink "CacheYardLaw" (15 : Nat) ({ cls := "CacheYard", name := "access", desc := "(IZ)I" } : Jvm.MethodName)) ∈ kw_all := List.mem_of_getElem? (i := 182) rfl
theorem kj_183 : (Jvm.Cond.instanceMethod ({ cls := "CacheYard", name := "access", desc := "(IZ)I" } : Jvm.MethodName)) ∈ kw_all := List.mem_of_getElem? (i := 183) rfl
theorem kj_184 : (Jvm.Cond.selects "CacheYard" ({ cls := "CacheYard", name := "access", desc := "(IZ)I" } : Jvm.MethodName) ({ cls := "CacheYard", name := "access", desc := "(IZ)I" } : Jvm.MethodName)) ∈ kw_all := List.mem_of_getElem? (i := 184) rfl
theorem kj_185 : (Jvm.Cond.code ({ cls := "CacheYard", name := "access", desc := "(IZ)I" } : Jvm.MethodName) prog_1_method_3_code (7 : Nat) (Option.some Jvm.ClassFile.FieldType.int)) ∈ kw_all := List.mem_of_getElem? (i := 185) rfl
theorem kj_186 : (Jvm.Cond.classLink "CacheYard" (60 : Nat) "java/lang/UnsupportedOperationException") ∈ kw_all := List.mem_of_getElem? (i := 186) rfl
theorem kj_187 : (Jvm.Cond.instantiable "java/lang/UnsupportedOperationException" (6 : Nat)) ∈ kw_all := List.mem_of_getElem? (i := 187) rfl
theorem kj_188 : (Jvm.Cond.selects "java/lang/UnsupportedOperationException" ({ cls := "java/lang/Throwable", name := "fillInStackTrace", desc := "(I)Ljava/lang/Throwable;" } : Jvm.MethodName) ({ cls := "java/lang/Throwable", name := "fillInStackTrace", desc := "(I)Ljava/lang/Throwable;" } : Jvm.MethodName)) ∈ kw_all := List.mem_of_getElem? (i := 188) rfl
theorem kj_189 : (Jvm.Cond.lays "java/lang/UnsupportedOperationException" "java/lang/Throwable" "cause" "Ljava/lang/Throwable;") ∈ kw_all := List.mem_of_getElem? (i := 189) rfl
theorem kj_190 : (Jvm.Cond.lays "java/lang/UnsupportedOperationException" "java/lang/Throwable" "stackTrace" "[Ljava/lang/StackTraceElement;") ∈ kw_all := List.mem_of_getElem? (i := 190) rfl
theorem kj_191 : (Jvm.Cond.lays "java/lang/UnsupportedOperationException" "java/lang/Throwable" "suppressedExceptions" "Ljava/util/List;") ∈ kw_all := List.mem_of_getElem? (i := 191) rfl
theorem kj_192 : (Jvm.Cond.lays "java/lang/UnsupportedOperationException" "java/lang/Throwable" "detailMessage" "Ljava/lang/String;") ∈ kw_all := List.mem_of_getElem? (i := 192) rfl
theorem kj_193 : (Jvm.Cond.lays "java/lang/UnsupportedOperationException" "java/lang/Throwable" "backtrace" "Ljava/lang/Object;") ∈ kw_all := List.mem_of_getElem? (i := 193) rfl
theorem kj_194 : (Jvm.Cond.methodLink "CacheYard" (64 : Nat) ({ cls := "java/lang/UnsupportedOperationException", name := "<init>", desc := "(Ljava/lang/String;)V" } : Jvm.MethodName)) ∈ kw_all := List.mem_of_getElem? (i := 194) rfl
theorem kj_195 : (Jvm.Cond.instanceMethod ({ cls := "java/lang/UnsupportedOperationException", name := "<init>", desc := "(Ljava/lang/String;)V" } : Jvm.MethodName)) ∈ kw_all := List.mem_of_getElem? (i := 195) rfl
theorem kj_196 : (Jvm.Cond.code ({ cls := "java/lang/UnsupportedOperationException", name := "<init>", desc := "(Ljava/lang/String;)V" } : Jvm.MethodName) prog_13_method_2_code (2 : Nat) (Option.none : Option Jvm.ClassFile.FieldType)) ∈ kw_all := List.mem_of_getElem? (i := 196) rfl
theorem kj_197 : (Jvm.Cond.methodLink "java/lang/UnsupportedOperationException" (7 : Nat) ({ cls := "java/lang/RuntimeException", name := "<init>", desc := "(Ljava/lang/String;)V" } : Jvm.MethodName)) ∈ kw_all := List.mem_of_getElem? (i := 197) rfl
theorem kj_198 : (Jvm.Cond.lays "java/lang/UnsupportedOperationException" "java/lang/Throwable" "depth" "I") ∈ kw_all := List.mem_of_getElem? (i := 198) rfl
theorem kj_199 : (Jvm.Cond.methodLink "CacheYard" (65 : Nat) ({ cls := "CacheYard$Row", name := "keep", desc := "(I)V" } : Jvm.MethodName)) ∈ kw_all := List.mem_of_getElem? (i := 199) rfl
theorem kj_200 : (Jvm.Cond.instanceMethod ({ cls := "CacheYard$Row", name := "keep", desc := "(I)V" } : Jvm.MethodName)) ∈ kw_all := List.mem_of_getElem? (i := 200) rfl
theorem kj_201 : (Jvm.Cond.selects "CacheYard$Row" ({ cls := "CacheYard$Row", name := "keep", desc := "(I)V" } : Jvm.MethodName) ({ cls := "CacheYard$Row", name := "keep", desc := "(I)V" } : Jvm.MethodName)) ∈ kw_all := List.mem_of_getElem? (i := 201) rfl
theorem kj_202 : (Jvm.Cond.code ({ cls := "CacheYard$Row", name := "keep", desc := "(I)V" } : Jvm.MethodName) prog_3_method_3_code (2 : Nat) (Option.none : Option Jvm.ClassFile.FieldType)) ∈ kw_all := List.mem_of_getElem? (i := 202) rfl
theorem kj_203 : (Jvm.Cond.methodLink "CacheYard" (69 : Nat) ({ cls := "CacheYard$Cache", name := "sees", desc := "(IZI)Z" } : Jvm.MethodName)) ∈ kw_all := List.mem_of_getElem? (i := 203) rfl
theorem kj_204 : (Jvm.Cond.instanceMethod ({ cls := "CacheYard$Cache", name := "sees", desc := "(IZI)Z" } : Jvm.MethodName)) ∈ kw_all := List.mem_of_getElem? (i := 204) rfl
theorem kj_205 : (Jvm.Cond.selects "CacheYard$Cache" ({ cls := "CacheYard$Cache", name := "sees", desc := "(IZI)Z" } : Jvm.MethodName) ({ cls := "CacheYard$Cache", name := "sees", desc := "(IZI)Z" } : Jvm.MethodName)) ∈ kw_all := List.mem_of_getElem? (i := 205) rfl
theorem kj_206 : (Jvm.Cond.code ({ cls := "CacheYard$Cache", name := "sees", desc := "(IZI)Z" } : Jvm.MethodName) prog_2_method_3_code (9 : Nat) (Option.some Jvm.ClassFile.FieldType.boolean)) ∈ kw_all := List.mem_of_getElem? (i := 206) rfl
theorem kj_207 : (Jvm.Cond.methodLink "CacheYard$Cache" (53 : Nat) ({ cls := "CacheYard$Cache", name := "countSets", desc := "()I" } : Jvm.MethodName)) ∈ kw_all := List.mem_of_getElem? (i := 207) rfl
theorem kj_208 : (Jvm.Cond.instanceMethod ({ cls := "CacheYard$Cache", name := "countSets", desc := "()I" } : Jvm.MethodName)) ∈ kw_all := List.mem_of_getElem? (i := 208) rfl
theorem kj_209 : (Jvm.Cond.code ({ cls := "CacheYard$Cache", name := "countSets", desc := "()I" } : Jvm.MethodName) prog_2_method_11_code (1 : Nat) (Option.some Jvm.ClassFile.FieldType.int)) ∈ kw_all := List.mem_of_getElem? (i := 209) rfl
theorem kj_210 : (Jvm.Cond.methodLink "CacheYard$Cache" (57 : Nat) ({ cls := "CacheYard$Cache", name := "findPlace", desc := "(II)I" } : Jvm.MethodName)) ∈ kw_all := List.mem_of_getElem? (i := 210) rfl
theorem kj_211 : (Jvm.Cond.instanceMethod ({ cls := "CacheYard$Cache", name := "findPlace", desc := "(II)I" } : Jvm.MethodName)) ∈ kw_all := List.mem_of_getElem? (i := 211) rfl
theorem kj_212 : (Jvm.Cond.code ({ cls := "CacheYard$Cache", name := "findPlace", desc := "(II)I" } : Jvm.MethodName) prog_2_method_13_code (4 : Nat) (Option.some Jvm.ClassFile.FieldType.int)) ∈ kw_all := List.mem_of_getElem? (i := 212) rfl
theorem kj_213 : (Jvm.Cond.methodLink "CacheYard$Cache" (74 : Nat) ({ cls := "CacheYard$Cache", name := "blockAt", desc := "(II)I" } : Jvm.MethodName)) ∈ kw_all := List.mem_of_getElem? (i := 213) rfl
theorem kj_214 : (Jvm.Cond.instanceMethod ({ cls := "CacheYard$Cache", name := "blockAt", desc := "(II)I" } : Jvm.MethodName)) ∈ kw_all := List.mem_of_getElem? (i := 214) rfl
theorem kj_215 : (Jvm.Cond.selects "CacheYard$Cache" ({ cls := "CacheYard$Cache", name := "blockAt", desc := "(II)I" } : Jvm.MethodName) ({ cls := "CacheYard$Cache", name := "blockAt", desc := "(II)I" } : Jvm.MethodName)) ∈ kw_all := List.mem_of_getElem? (i := 215) rfl
theorem kj_216 : (Jvm.Cond.code ({ cls := "CacheYard$Cache", name := "blockAt", desc := "(II)I" } : Jvm.MethodName) prog_2_method_6_code (3 : Nat) (Option.some Jvm.ClassFile.FieldType.int)) ∈ kw_all := List.mem_of_getElem? (i := 216) rfl
theorem kj_217 : (Jvm.Cond.methodLink "CacheYard$Cache" (64 : Nat) ({ cls := "CacheYard$Cache", name := "slotOf", desc := "(II)I" } : Jvm.MethodName)) ∈ kw_all := List.mem_of_getElem? (i := 217) rfl
theorem kj_218 : (Jvm.Cond.instanceMethod ({ cls := "CacheYard$Cache", name := "slotOf", desc := "(II)I" } : Jvm.MethodName)) ∈ kw_all := List.mem_of_getElem? (i := 218) rfl
theorem kj_219 : (Jvm.Cond.code ({ cls := "CacheYard$Cache", name := "slotOf", desc := "(II)I" } : Jvm.MethodName) prog_2_method_12_code (3 : Nat) (Option.some Jvm.ClassFile.FieldType.int)) ∈ kw_all := List.mem_of_getElem? (i := 219) rfl
theorem kj_220 : (Jvm.Cond.methodLink "CacheYard$Cache" (61 : Nat) ({ cls := "CacheYard$Cache", name := "bringIn", desc := "(II)I" } : Jvm.MethodName)) ∈ kw_all := List.mem_of_getElem? (i := 220) rfl
theorem kj_221 : (Jvm.Cond.instanceMethod ({ cls := "CacheYard$Cache", name := "bringIn", desc := "(II)I" } : Jvm.MethodName)) ∈ kw_all := List.mem_of_getElem? (i := 221) rfl
theorem kj_222 : (Jvm.Cond.code ({ cls := "CacheYard$Cache", name := "bringIn", desc := "(II)I" } : Jvm.MethodName) prog_2_method_14_code (5 : Nat) (Option.some Jvm.ClassFile.FieldType.int)) ∈ kw_all := List.mem_of_getElem? (i := 222) rfl
theorem kj_223 : (Jvm.Cond.methodLink "CacheYard$Cache" (77 : Nat) ({ cls := "CacheYard$Cache", name := "pointedPlace", desc := "(I)I" } : Jvm.MethodName)) ∈ kw_all := List.mem_of_getElem? (i := 223) rfl
theorem kj_224 : (Jvm.Cond.instanceMethod ({ cls := "CacheYard$Cache", name := "pointedPlace", desc := "(I)I" } : Jvm.MethodName)) ∈ kw_all := List.mem_of_getElem? (i := 224) rfl
theorem kj_225 : (Jvm.Cond.code ({ cls := "CacheYard$Cache", name := "pointedPlace", desc := "(I)I" } : Jvm.MethodName) prog_2_method_16_code (7 : Nat) (Option.some Jvm.ClassFile.FieldType.int)) ∈ kw_all := List.mem_of_getElem? (i := 225) rfl
theorem kj_226 : (Jvm.Cond.methodLink "CacheYard$Cache" (81 : Nat) ({ cls := "CacheYard$Cache", name := "oldestPlace", desc := "(I)I" } : Jvm.MethodName)) ∈ kw_all := List.mem_of_getElem? (i := 226) rfl
theorem kj_227 : (Jvm.Cond.instanceMethod ({ cls := "CacheYard$Cache", name := "oldestPlace", desc := "(I)I" } : Jvm.MethodName)) ∈ kw_all := List.mem_of_getElem? (i := 227) rfl
theorem kj_228 : (Jvm.Cond.code ({ cls := "CacheYard$Cache", name := "oldestPlace", desc := "(I)I" } : Jvm.MethodName) prog_2_method_15_code (4 : Nat) (Option.some Jvm.ClassFile.FieldType.int)) ∈ kw_all := List.mem_of_getElem? (i := 228) rfl
theorem kj_229 : (Jvm.Cond.methodLink "CacheYard$Cache" (84 : Nat) ({ cls := "CacheYard$Cache", name := "isDirtyAt", desc := "(II)Z" } : Jvm.MethodName)) ∈ kw_all := List.mem_of_getElem? (i := 229) rfl
theorem kj_230 : (Jvm.Cond.instanceMethod ({ cls := "CacheYard$Cache", name := "isDirtyAt", desc := "(II)Z" } : Jvm.MethodName)) ∈ kw_all := List.mem_of_getElem? (i := 230) rfl
theorem kj_231 : (Jvm.Cond.selects "CacheYard$Cache" ({ cls := "CacheYard$Cache", name := "isDirtyAt", desc := "(II)Z" } : Jvm.MethodName) ({ cls := "CacheYard$Cache", name := "isDirtyAt", desc := "(II)Z" } : Jvm.MethodName)) ∈ kw_all := List.mem_of_getElem? (i := 231) rfl
theorem kj_232 : (Jvm.Cond.code ({ cls := "CacheYard$Cache", name := "isDirtyAt", desc := "(II)Z" } : Jvm.MethodName) prog_2_method_7_code (3 : Nat) (Option.some Jvm.ClassFile.FieldType.boolean)) ∈ kw_all := List.mem_of_getElem? (i := 232) rfl
theorem kj_233 : (Jvm.Cond.methodLink "CacheYard$Cache" (67 : Nat) ({ cls := "CacheYard$Cache", name := "pointAway", desc := "(II)V" } : Jvm.MethodName)) ∈ kw_all := List.mem_of_getElem? (i := 233) rfl
theorem kj_234 : (Jvm.Cond.instanceMethod ({ cls := "CacheYard$Cache", name := "pointAway", desc := "(II)V" } : Jvm.MethodName)) ∈ kw_all := List.mem_of_getElem? (i := 234) rfl
theorem kj_235 : (Jvm.Cond.code ({ cls := "CacheYard$Cache", name := "pointAway", desc := "(II)V" } : Jvm.MethodName) prog_2_method_17_code (6 : Nat) (Option.none : Option Jvm.ClassFile.FieldType)) ∈ kw_all := List.mem_of_getElem? (i := 235) rfl
theorem kj_236 : (Jvm.Cond.methodLink "CacheYardLaw" (61 : Nat) ({ cls := "CacheYardLaw", name := "flush", desc := "(LCacheYard;I[J)I" } : Jvm.MethodName)) ∈ kw_all := List.mem_of_getElem? (i := 236) rfl
theorem kj_237 : (Jvm.Cond.static ({ cls := "CacheYardLaw", name := "flush", desc := "(LCacheYard;I[J)I" } : Jvm.MethodName)) ∈ kw_all := List.mem_of_getElem? (i := 237) rfl
theorem kj_238 : (Jvm.Cond.codeWith ({ cls := "CacheYardLaw", name := "flush", desc := "(LCacheYard;I[J)I" } : Jvm.MethodName) method_5_code (4 : Nat) (Option.some Jvm.ClassFile.FieldType.int) [((0 : Nat), (9 : Nat), (12 : Nat), (25 : Nat))]) ∈ kw_all := List.mem_of_getElem? (i := 238) rfl
theorem kj_239 : (Jvm.Cond.classLink "CacheYardLaw" (25 : Nat) "java/util/NoSuchElementException") ∈ kw_all := List.mem_of_getElem? (i := 239) rfl
theorem kj_240 : (Jvm.Cond.methodLink "CacheYardLaw" (21 : Nat) ({ cls := "CacheYard", name := "flush", desc := "(I)I" } : Jvm.MethodName)) ∈ kw_all := List.mem_of_getElem? (i := 240) rfl
theorem kj_241 : (Jvm.Cond.instanceMethod ({ cls := "CacheYard", name := "flush", desc := "(I)I" } : Jvm.MethodName)) ∈ kw_all := List.mem_of_getElem? (i := 241) rfl
theorem kj_242 : (Jvm.Cond.selects "CacheYard" ({ cls := "CacheYard", name := "flush", desc := "(I)I" } : Jvm.MethodName) ({ cls := "CacheYard", name := "flush", desc := "(I)I" } : Jvm.MethodName)) ∈ kw_all := List.mem_of_getElem? (i := 242) rfl
theorem kj_243 : (Jvm.Cond.code ({ cls := "CacheYard", name := "flush", desc := "(I)I" } : Jvm.MethodName) prog_1_method_4_code (2 : Nat) (Option.some Jvm.ClassFile.FieldType.int)) ∈ kw_all := List.mem_of_getElem? (i := 243) rfl
theorem kj_244 : (Jvm.Cond.methodLink "CacheYard" (73 : Nat) ({ cls := "CacheYard", name := "madeCache", desc := "(I)LCacheYard$Cache;" } : Jvm.MethodName)) ∈ kw_all := List.mem_of_getElem? (i := 244) rfl
theorem kj_245 : (Jvm.Cond.instanceMethod ({ cls := "CacheYard", name := "madeCache", desc := "(I)LCacheYard$Cache;" } : Jvm.MethodName)) ∈ kw_all := List.mem_of_getElem? (i := 245) rfl
theorem kj_246 : (Jvm.Cond.code ({ cls := "CacheYard", name := "madeCache", desc := "(I)LCacheYard$Cache;" } : Jvm.MethodName) prog_1_method_10_code (3 : Nat) (Option.some (Jvm.ClassFile.FieldType.object "CacheYard$Cache"))) ∈ kw_all := List.mem_of_getElem? (i := 246) rfl
theorem kj_247 : (Jvm.Cond.classLink "CacheYard" (127 : Nat) "java/util/NoSuchElementException") ∈ kw_all := List.mem_of_getElem? (i := 247) rfl
theorem kj_248 : (Jvm.Cond.instantiable "java/util/NoSuchElementException" (6 : Nat)) ∈ kw_all := List.mem_of_getElem? (i := 248) rfl
theorem kj_249 : (Jvm.Cond.selects "java/util/NoSuchElementException" ({ cls := "java/lang/Throwable", name := "fillInStackTrace", desc := "(I)Ljava/lang/Throwable;" } : Jvm.MethodName) ({ cls := "java/lang/Throwable", name := "fillInStackTrace", desc := "(I)Ljava/lang/Throwable;" } : Jvm.MethodName)) ∈ kw_all := List.mem_of_getElem? (i := 249) rfl
theorem kj_250 : (Jvm.Cond.lays "java/util/NoSuchElementException" "java/lang/Throwable" "cause" "Ljava/lang/Throwable;") ∈ kw_all := List.mem_of_getElem? (i := 250) rfl
theorem kj_251 : (Jvm.Cond.lays "java/util/NoSuchElementException" "java/lang/Throwable" "stackTrace" "[Ljava/lang/StackTraceElement;") ∈ kw_all := List.mem_of_getElem? (i := 251) rfl
theorem kj_252 : (Jvm.Cond.lays "java/util/NoSuchElementException" "java/lang/Throwable" "suppressedExceptions" "Ljava/util/List;") ∈ kw_all := List.mem_of_getElem? (i := 252) rfl
theorem kj_253 : (Jvm.Cond.lays "java/util/NoSuchElementException" "java/lang/Throwable" "detailMessage" "Ljava/lang/String;") ∈ kw_all := List.mem_of_getElem? (i := 253) rfl
theorem kj_254 : (Jvm.Cond.lays "java/util/NoSuchElementException" "java/lang/Throwable" "backtrace" "Ljava/lang/Object;") ∈ kw_all := List.mem_of_getElem? (i := 254) rfl
theorem kj_255 : (Jvm.Cond.methodLink "CacheYard" (129 : Nat) ({ cls := "java/util/NoSuchElementException", name := "<init>", desc := "(Ljava/lang/String;)V" } : Jvm.MethodName)) ∈ kw_all := List.mem_of_getElem? (i := 255) rfl
theorem kj_256 : (Jvm.Cond.instanceMethod ({ cls := "java/util/NoSuchElementException", name := "<init>", desc := "(Ljava/lang/String;)V" } : Jvm.MethodName)) ∈ kw_all := List.mem_of_getElem? (i := 256) rfl
theorem kj_257 : (Jvm.Cond.code ({ cls := "java/util/NoSuchElementException", name := "<init>", desc := "(Ljava/lang/String;)V" } : Jvm.MethodName) prog_14_method_4_code (2 : Nat) (Option.none : Option Jvm.ClassFile.FieldType)) ∈ kw_all := List.mem_of_getElem? (i := 257) rfl
theorem kj_258 : (Jvm.Cond.methodLink "java/util/NoSuchElementException" (13 : Nat) ({ cls := "java/lang/RuntimeException", name := "<init>", desc := "(Ljava/lang/String;)V" } : Jvm.MethodName)) ∈ kw_all := List.mem_of_getElem? (i := 258) rfl
theorem kj_259 : (Jvm.Cond.lays "java/util/NoSuchElementException" "java/lang/Throwable" "depth" "I") ∈ kw_all := List.mem_of_getElem? (i := 259) rfl
theorem kj_260 : (Jvm.Cond.methodLink "CacheYard" (77 : Nat) ({ cls := "CacheYard$Cache", name := "letAllGo", desc := "()I" } : Jvm.MethodName)) ∈ kw_all := List.mem_of_getElem? (i := 260) rfl
theorem kj_261 : (Jvm.Cond.instanceMethod ({ cls := "CacheYard$Cache", name := "letAllGo", desc := "()I" } : Jvm.MethodName)) ∈ kw_all := List.mem_of_getElem? (i := 261) rfl
theorem kj_262 : (Jvm.Cond.selects "CacheYard$Cache" ({ cls := "CacheYard$Cache", name := "letAllGo", desc := "()I" } : Jvm.MethodName) ({ cls := "CacheYard$Cache", name := "letAllGo", desc := "()I" } : Jvm.MethodName)) ∈ kw_all := List.mem_of_getElem? (i := 262) rfl
theorem kj_263 : (Jvm.Cond.code ({ cls := "CacheYard$Cache", name := "letAllGo", desc := "()I" } : Jvm.MethodName) prog_2_method_4_code (2 : Nat) (Option.some Jvm.ClassFile.FieldType.int)) ∈ kw_all := List.mem_of_getElem? (i := 263) rfl
theorem kj_264 : (Jvm.Cond.methodLink "CacheYard$Cache" (71 : Nat) ({ cls := "CacheYard$Cache", name := "countDirty", desc := "()I" } : Jvm.MethodName)) ∈ kw_all := List.mem_of_getElem? (i := 264) rfl
theorem kj_265 : (Jvm.Cond.instanceMethod ({ cls := "CacheYard$Cache", name := "countDirty", desc := "()I" } : Jvm.MethodName)) ∈ kw_all := List.mem_of_getElem? (i := 265) rfl
theorem kj_266 : (Jvm.Cond.selects "CacheYard$Cache" ({ cls := "CacheYard$Cache", name := "countDirty", desc := "()I" } : Jvm.MethodName) ({ cls := "CacheYard$Cache", name := "countDirty", desc := "()I" } : Jvm.MethodName)) ∈ kw_all := List.mem_of_getElem? (i := 266) rfl
theorem kj_267 : (Jvm.Cond.code ({ cls := "CacheYard$Cache", name := "countDirty", desc := "()I" } : Jvm.MethodName) prog_2_method_9_code (3 : Nat) (Option.some Jvm.ClassFile.FieldType.int)) ∈ kw_all := List.mem_of_getElem? (i := 267) rfl
theorem kj_268 : (Jvm.Cond.methodLink "CacheYardLaw" (65 : Nat) ({ cls := "CacheYardLaw", name := "place", desc := "(LCacheYard;IIII[J)I" } : Jvm.MethodName)) ∈ kw_all := List.mem_of_getElem? (i := 268) rfl
theorem kj_269 : (Jvm.Cond.static ({ cls := "CacheYardLaw", name := "place", desc := "(LCacheYard;IIII[J)I" } : Jvm.MethodName)) ∈ kw_all := List.mem_of_getElem? (i := 269) rfl
theorem kj_270 : (Jvm.Cond.codeWith ({ cls := "CacheYardLaw", name := "place", desc := "(LCacheYard;IIII[J)I" } : Jvm.MethodName) method_6_code (7 : Nat) (Option.some Jvm.ClassFile.FieldType.int) [((0 : Nat), (14 : Nat), (17 : Nat), (25 : Nat)), ((0 : Nat), (14 : Nat), (21 : Nat), (31 : Nat)), ((0 : Nat), (14 : Nat), (25 : Nat), (13 : Nat))]) ∈ kw_all := List.mem_of_getElem? (i := 270) rfl
theorem kj_271 : (Jvm.Cond.classLink "CacheYardLaw" (31 : Nat) "java/lang/IndexOutOfBoundsException") ∈ kw_all := List.mem_of_getElem? (i := 271) rfl
theorem kj_272 : (Jvm.Cond.methodLink "CacheYardLaw" (27 : Nat) ({ cls := "CacheYard", name := "place", desc := "(IIII)I" } : Jvm.MethodName)) ∈ kw_all := List.mem_of_getElem? (i := 272) rfl
theorem kj_273 : (Jvm.Cond.instanceMethod ({ cls := "CacheYard", name := "place", desc := "(IIII)I" } : Jvm.MethodName)) ∈ kw_all := List.mem_of_getElem? (i := 273) rfl
theorem kj_274 : (Jvm.Cond.selects "CacheYard" ({ cls := "CacheYard", name := "place", desc := "(IIII)I" } : Jvm.MethodName) ({ cls := "CacheYard", name := "place", desc := "(IIII)I" } : Jvm.MethodName)) ∈ kw_all := List.mem_of_getElem? (i := 274) rfl
theorem kj_275 : (Jvm.Cond.code ({ cls := "CacheYard", name := "place", desc := "(IIII)I" } : Jvm.MethodName) prog_1_method_5_code (6 : Nat) (Option.some Jvm.ClassFile.FieldType.int)) ∈ kw_all := List.mem_of_getElem? (i := 275) rfl
theorem kj_276 : (Jvm.Cond.methodLink "CacheYard" (80 : Nat) ({ cls := "CacheYard$Cache", name := "hasPlace", desc := "(II)Z" } : Jvm.MethodName)) ∈ kw_all := List.mem_of_getElem? (i := 276) rfl
theorem kj_277 : (Jvm.Cond.instanceMethod ({ cls := "CacheYard$Cache", name := "hasPlace", desc := "(II)Z" } : Jvm.MethodName)) ∈ kw_all := List.mem_of_getElem? (i := 277) rfl
theorem kj_278 : (Jvm.Cond.selects "CacheYard$Cache" ({ cls := "CacheYard$Cache", name := "hasPlace", desc := "(II)Z" } : Jvm.MethodName) ({ cls := "CacheYard$Cache", name := "hasPlace", desc := "(II)Z" } : Jvm.MethodName)) ∈ kw_all := List.mem_of_getElem? (i := 278) rfl
theorem kj_279 : (Jvm.Cond.code ({ cls := "CacheYard$Cache", name := "hasPlace", desc := "(II)Z" } : Jvm.MethodName) prog_2_method_5_code (3 : Nat) (Option.some Jvm.ClassFile.FieldType.boolean)) ∈ kw_all := List.mem_of_getElem? (i := 279) rfl
theorem kj_280 : (Jvm.Cond.classLink "CacheYard" (84 : Nat) "java/lang/IndexOutOfBoundsException") ∈ kw_all := List.mem_of_getElem? (i := 280) rfl
theorem kj_281 : (Jvm.Cond.instantiable "java/lang/IndexOutOfBoundsException" (6 : Nat)) ∈ kw_all := List.mem_of_getElem? (i := 281) rfl
theorem kj_282 : (Jvm.Cond.selects "java/lang/IndexOutOfBoundsException" ({ cls := "java/lang/Throwable", name := "fillInStackTrace", desc := "(I)Ljava/lang/Throwable;" } : Jvm.MethodName) ({ cls := "java/lang/Throwable", name := "fillInStackTrace", desc := "(I)Ljava/lang/Throwable;" } : Jvm.MethodName)) ∈ kw_all := List.mem_of_getElem? (i := 282) rfl
theorem kj_283 : (Jvm.Cond.lays "java/lang/IndexOutOfBoundsException" "java/lang/Throwable" "cause" "Ljava/lang/Throwable;") ∈ kw_all := List.mem_of_getElem? (i := 283) rfl
theorem kj_284 : (Jvm.Cond.lays "java/lang/IndexOutOfBoundsException" "java/lang/Throwable" "stackTrace" "[Ljava/lang/StackTraceElement;") ∈ kw_all := List.mem_of_getElem? (i := 284) rfl
theorem kj_285 : (Jvm.Cond.lays "java/lang/IndexOutOfBoundsException" "java/lang/Throwable" "suppressedExceptions" "Ljava/util/List;") ∈ kw_all := List.mem_of_getElem? (i := 285) rfl
theorem kj_286 : (Jvm.Cond.lays "java/lang/IndexOutOfBoundsException" "java/lang/Throwable" "detailMessage" "Ljava/lang/String;") ∈ kw_all := List.mem_of_getElem? (i := 286) rfl
theorem kj_287 : (Jvm.Cond.lays "java/lang/IndexOutOfBoundsException" "java/lang/Throwable" "backtrace" "Ljava/lang/Object;") ∈ kw_all := List.mem_of_getElem? (i := 287) rfl
theorem kj_288 : (Jvm.Cond.methodLink "CacheYard" (88 : Nat) ({ cls := "java/lang/IndexOutOfBoundsException", name := "<init>", desc := "(Ljava/lang/String;)V" } : Jvm.MethodName)) ∈ kw_all := List.mem_of_getElem? (i := 288) rfl
theorem kj_289 : (Jvm.Cond.instanceMethod ({ cls := "java/lang/IndexOutOfBoundsException", name := "<init>", desc := "(Ljava/lang/String;)V" } : Jvm.MethodName)) ∈ kw_all := List.mem_of_getElem? (i := 289) rfl
theorem kj_290 : (Jvm.Cond.code ({ cls := "java/lang/IndexOutOfBoundsException", name := "<init>", desc := "(Ljava/lang/String;)V" } : Jvm.MethodName) prog_8_method_2_code (2 : Nat) (Option.none : Option Jvm.ClassFile.FieldType)) ∈ kw_all := List.mem_of_getElem? (i := 290) rfl
theorem kj_291 : (Jvm.Cond.methodLink "java/lang/IndexOutOfBoundsException" (7 : Nat) ({ cls := "java/lang/RuntimeException", name := "<init>", desc := "(Ljava/lang/String;)V" } : Jvm.MethodName)) ∈ kw_all := List.mem_of_getElem? (i := 291) rfl
theorem kj_292 : (Jvm.Cond.lays "java/lang/IndexOutOfBoundsException" "java/lang/Throwable" "depth" "I") ∈ kw_all := List.mem_of_getElem? (i := 292) rfl
theorem kj_293 : (Jvm.Cond.methodLink "CacheYard" (89 : Nat) ({ cls := "CacheYard$Cache", name := "blockAt", desc := "(II)I" } : Jvm.MethodName)) ∈ kw_all := List.mem_of_getElem? (i := 293) rfl
theorem kj_294 : (Jvm.Cond.methodLink "CacheYard" (93 : Nat) ({ cls := "CacheYard$Cache", name := "isDirtyAt", desc := "(II)Z" } : Jvm.MethodName)) ∈ kw_all := List.mem_of_getElem? (i := 294) rfl
theorem kj_295 : (Jvm.Cond.methodLink "CacheYardLaw" (69 : Nat) ({ cls := "CacheYardLaw", name := "about", desc := "(LCacheYard;II[J)I" } : Jvm.MethodName)) ∈ kw_all := List.mem_of_getElem? (i := 295) rfl
theorem kj_296 : (Jvm.Cond.static ({ cls := "CacheYardLaw", name := "about", desc := "(LCacheYard;II[J)I" } : Jvm.MethodName)) ∈ kw_all := List.mem_of_getElem? (i := 296) rfl
theorem kj_297 : (Jvm.Cond.codeWith ({ cls := "CacheYardLaw", name := "about", desc := "(LCacheYard;II[J)I" } : Jvm.MethodName) method_7_code (5 : Nat) (Option.some Jvm.ClassFile.FieldType.int) [((0 : Nat), (10 : Nat), (13 : Nat), (25 : Nat)), ((0 : Nat), (10 : Nat), (17 : Nat), (13 : Nat))]) ∈ kw_all := List.mem_of_getElem? (i := 297) rfl
theorem kj_298 : (Jvm.Cond.methodLink "CacheYardLaw" (33 : Nat) ({ cls := "CacheYard", name := "about", desc := "(II)I" } : Jvm.MethodName)) ∈ kw_all := List.mem_of_getElem? (i := 298) rfl
theorem kj_299 : (Jvm.Cond.instanceMethod ({ cls := "CacheYard", name := "about", desc := "(II)I" } : Jvm.MethodName)) ∈ kw_all := List.mem_of_getElem? (i := 299) rfl
theorem kj_300 : (Jvm.Cond.selects "CacheYard" ({ cls := "CacheYard", name := "about", desc := "(II)I" } : Jvm.MethodName) ({ cls := "CacheYard", name := "about", desc := "(II)I" } : Jvm.MethodName)) ∈ kw_all := List.mem_of_getElem? (i := 300) rfl
theorem kj_301 : (Jvm.Cond.code ({ cls := "CacheYard", name := "about", desc := "(II)I" } : Jvm.MethodName) prog_1_method_6_code (4 : Nat) (Option.some Jvm.ClassFile.FieldType.int)) ∈ kw_all := List.mem_of_getElem? (i := 301) rfl
theorem kj_302 : (Jvm.Cond.methodLink "CacheYard" (111 : Nat) ({ cls := "CacheYard$Cache", name := "countHeld", desc := "()I" } : Jvm.MethodName)) ∈ kw_all := List.mem_of_getElem? (i := 302) rfl
theorem kj_303 : (Jvm.Cond.instanceMethod ({ cls := "CacheYard$Cache", name := "countHeld", desc := "()I" } : Jvm.MethodName)) ∈ kw_all := List.mem_of_getElem? (i := 303) rfl
theorem kj_304 : (Jvm.Cond.selects "CacheYard$Cache" ({ cls := "CacheYard$Cache", name := "countHeld", desc := "()I" } : Jvm.MethodName) ({ cls := "CacheYard$Cache", name := "countHeld", desc := "()I" } : Jvm.MethodName)) ∈ kw_all := List.mem_of_getElem? (i := 304) rfl
theorem kj_305 : (Jvm.Cond.code ({ cls := "CacheYard$Cache", name := "countHeld", desc := "()I" } : Jvm.MethodName) prog_2_method_8_code (3 : Nat) (Option.some Jvm.ClassFile.FieldType.int)) ∈ kw_all := List.mem_of_getElem? (i := 305) rfl
theorem kj_306 : (Jvm.Cond.methodLink "CacheYard" (114 : Nat) ({ cls := "CacheYard$Cache", name := "countDirty", desc := "()I" } : Jvm.MethodName)) ∈ kw_all := List.mem_of_getElem? (i := 306) rfl
theorem kj_307 : (Jvm.Cond.methodLink "CacheYardLaw" (77 : Nat) ({ cls := "CacheYardLaw", name := "curve", desc := "(LCacheYard;II[J)I" } : Jvm.MethodName)) ∈ kw_all := List.mem_of_getElem? (i := 307) rfl
theorem kj_308 : (Jvm.Cond.static ({ cls := "CacheYardLaw", name := "curve", desc := "(LCacheYard;II[J)I" } : Jvm.MethodName)) ∈ kw_all := List.mem_of_getElem? (i := 308) rfl
theorem kj_309 : (Jvm.Cond.codeWith ({ cls := "CacheYardLaw", name := "curve", desc := "(LCacheYard;II[J)I" } : Jvm.MethodName) method_8_code (5 : Nat) (Option.some Jvm.ClassFile.FieldType.int) [((0 : Nat), (10 : Nat), (13 : Nat), (13 : Nat))]) ∈ kw_all := List.mem_of_getElem? (i := 309) rfl
theorem kj_310 : (Jvm.Cond.methodLink "CacheYardLaw" (37 : Nat) ({ cls := "CacheYard", name := "curve", desc := "(II)I" } : Jvm.MethodName)) ∈ kw_all := List.mem_of_getElem? (i := 310) rfl
theorem kj_311 : (Jvm.Cond.instanceMethod ({ cls := "CacheYard", name := "curve", desc := "(II)I" } : Jvm.MethodName)) ∈ kw_all := List.mem_of_getElem? (i := 311) rfl
theorem kj_312 : (Jvm.Cond.selects "CacheYard" ({ cls := "CacheYard", name := "curve", desc := "(II)I" } : Jvm.MethodName) ({ cls := "CacheYard", name := "curve", desc := "(II)I" } : Jvm.MethodName)) ∈ kw_all := List.mem_of_getElem? (i := 312) rfl
theorem kj_313 : (Jvm.Cond.code ({ cls := "CacheYard", name := "curve", desc := "(II)I" } : Jvm.MethodName) prog_1_method_8_code (3 : Nat) (Option.some Jvm.ClassFile.FieldType.int)) ∈ kw_all := List.mem_of_getElem? (i := 313) rfl
theorem kj_314 : (Jvm.Cond.methodLink "CacheYard" (119 : Nat) ({ cls := "CacheYard", name := "requireLinesAndBits", desc := "(II)V" } : Jvm.MethodName)) ∈ kw_all := List.mem_of_getElem? (i := 314) rfl
theorem kj_315 : (Jvm.Cond.static ({ cls := "CacheYard", name := "requireLinesAndBits", desc := "(II)V" } : Jvm.MethodName)) ∈ kw_all := List.mem_of_getElem? (i := 315) rfl
theorem kj_316 : (Jvm.Cond.code ({ cls := "CacheYard", name := "requireLinesAndBits", desc := "(II)V" } : Jvm.MethodName) prog_1_method_11_code (2 : Nat) (Option.none : Option Jvm.ClassFile.FieldType)) ∈ kw_all := List.mem_of_getElem? (i := 316) rfl
theorem kj_317 : (Jvm.Cond.methodLink "CacheYard" (123 : Nat) ({ cls := "CacheYard$Row", name := "countHits", desc := "(IIZ)I" } : Jvm.MethodName)) ∈ kw_all := List.mem_of_getElem? (i := 317) rfl
theorem kj_318 : (Jvm.Cond.instanceMethod ({ cls := "CacheYard$Row", name := "countHits", desc := "(IIZ)I" } : Jvm.MethodName)) ∈ kw_all := List.mem_of_getElem? (i := 318) rfl
theorem kj_319 : (Jvm.Cond.selects "CacheYard$Row" ({ cls := "CacheYard$Row", name := "countHits", desc := "(IIZ)I" } : Jvm.MethodName) ({ cls := "CacheYard$Row", name := "countHits", desc := "(IIZ)I" } : Jvm.MethodName)) ∈ kw_all := List.mem_of_getElem? (i := 319) rfl
theorem kj_320 : (Jvm.Cond.code ({ cls := "CacheYard$Row", name := "countHits", desc := "(IIZ)I" } : Jvm.MethodName) prog_3_method_4_code (8 : Nat) (Option.some Jvm.ClassFile.FieldType.int)) ∈ kw_all := List.mem_of_getElem? (i := 320) rfl
theorem kj_321 : (Jvm.Cond.methodLink "CacheYard$Row" (28 : Nat) ({ cls := "CacheYard$Row", name := "findNextUses", desc := "(I)V" } : Jvm.MethodName)) ∈ kw_all := List.mem_of_getElem? (i := 321) rfl
theorem kj_322 : (Jvm.Cond.instanceMethod ({ cls := "CacheYard$Row", name := "findNextUses", desc := "(I)V" } : Jvm.MethodName)) ∈ kw_all := List.mem_of_getElem? (i := 322) rfl
theorem kj_323 : (Jvm.Cond.code ({ cls := "CacheYard$Row", name := "findNextUses", desc := "(I)V" } : Jvm.MethodName) prog_3_method_5_code (4 : Nat) (Option.none : Option Jvm.ClassFile.FieldType)) ∈ kw_all := List.mem_of_getElem? (i := 323) rfl
theorem kj_324 : (Jvm.Cond.methodLink "CacheYard$Row" (32 : Nat) ({ cls := "CacheYard$Row", name := "findLine", desc := "(II)I" } : Jvm.MethodName)) ∈ kw_all := List.mem_of_getElem? (i := 324) rfl
theorem kj_325 : (Jvm.Cond.instanceMethod ({ cls := "CacheYard$Row", name := "findLine", desc := "(II)I" } : Jvm.MethodName)) ∈ kw_all := List.mem_of_getElem? (i := 325) rfl
theorem kj_326 : (Jvm.Cond.code ({ cls := "CacheYard$Row", name := "findLine", desc := "(II)I" } : Jvm.MethodName) prog_3_method_6_code (4 : Nat) (Option.some Jvm.ClassFile.FieldType.int)) ∈ kw_all := List.mem_of_getElem? (i := 326) rfl
theorem kj_327 : (Jvm.Cond.methodLink "CacheYard$Row" (36 : Nat) ({ cls := "CacheYard$Row", name := "lineNeededLast", desc := "(I)I" } : Jvm.MethodName)) ∈ kw_all := List.mem_of_getElem? (i := 327) rfl
theorem kj_328 : (Jvm.Cond.instanceMethod ({ cls := "CacheYard$Row", name := "lineNeededLast", desc := "(I)I" } : Jvm.MethodName)) ∈ kw_all := List.mem_of_getElem? (i := 328) rfl
theorem kj_329 : (Jvm.Cond.code ({ cls := "CacheYard$Row", name := "lineNeededLast", desc := "(I)I" } : Jvm.MethodName) prog_3_method_7_code (4 : Nat) (Option.some Jvm.ClassFile.FieldType.int)) ∈ kw_all := List.mem_of_getElem? (i := 329) rfl
theorem kj_330 : (Jvm.Cond.methodLink "CacheYard$Row" (40 : Nat) ({ cls := "CacheYard$Row", name := "bringToFront", desc := "(II)V" } : Jvm.MethodName)) ∈ kw_all := List.mem_of_getElem? (i := 330) rfl
theorem kj_331 : (Jvm.Cond.instanceMethod ({ cls := "CacheYard$Row", name := "bringToFront", desc := "(II)V" } : Jvm.MethodName)) ∈ kw_all := List.mem_of_getElem? (i := 331) rfl
theorem kj_332 : (Jvm.Cond.code ({ cls := "CacheYard$Row", name := "bringToFront", desc := "(II)V" } : Jvm.MethodName) prog_3_method_8_code (4 : Nat) (Option.none : Option Jvm.ClassFile.FieldType)) ∈ kw_all := List.mem_of_getElem? (i := 332) rfl
theorem kj_333 : (Jvm.Cond.methodLink "CacheYardLaw" (80 : Nat) ({ cls := "CacheYardLaw", name := "best", desc := "(LCacheYard;II[J)I" } : Jvm.MethodName)) ∈ kw_all := List.mem_of_getElem? (i := 333) rfl
theorem kj_334 : (Jvm.Cond.static ({ cls := "CacheYardLaw", name := "best", desc := "(LCacheYard;II[J)I" } : Jvm.MethodName)) ∈ kw_all := List.mem_of_getElem? (i := 334) rfl
theorem kj_335 : (Jvm.Cond.codeWith ({ cls := "CacheYardLaw", name := "best", desc := "(LCacheYard;II[J)I" } : Jvm.MethodName) method_9_code (5 : Nat) (Option.some Jvm.ClassFile.FieldType.int) [((0 : Nat), (10 : Nat), (13 : Nat), (13 : Nat))]) ∈ kw_all := List.mem_of_getElem? (i := 335) rfl
theorem kj_336 : (Jvm.Cond.methodLink "CacheYardLaw" (40 : Nat) ({ cls := "CacheYard", name := "best", desc := "(II)I" } : Jvm.MethodName)) ∈ kw_all := List.mem_of_getElem? (i := 336) rfl
theorem kj_337 : (Jvm.Cond.instanceMethod ({ cls := "CacheYard", name := "best", desc := "(II)I" } : Jvm.MethodName)) ∈ kw_all := List.mem_of_getElem? (i := 337) rfl
theorem kj_338 : (Jvm.Cond.selects "CacheYard" ({ cls := "CacheYard", name := "best", desc := "(II)I" } : Jvm.MethodName) ({ cls := "CacheYard", name := "best", desc := "(II)I" } : Jvm.MethodName)) ∈ kw_all := List.mem_of_getElem? (i := 338) rfl
theorem kj_339 : (Jvm.Cond.code ({ cls := "CacheYard", name := "best", desc := "(II)I" } : Jvm.MethodName) prog_1_method_9_code (3 : Nat) (Option.some Jvm.ClassFile.FieldType.int)) ∈ kw_all := List.mem_of_getElem? (i := 339) rfl
theorem kj_340 : (Jvm.Cond.classLink "CacheYardLaw" (44 : Nat) "CacheYardModel") ∈ kw_all := List.mem_of_getElem? (i := 340) rfl
theorem kj_341 : (Jvm.Cond.instantiable "CacheYardModel" (22 : Nat)) ∈ kw_all := List.mem_of_getElem? (i := 341) rfl
theorem kj_342 : (Jvm.Cond.methodLink "CacheYardLaw" (46 : Nat) ({ cls := "CacheYardModel", name := "<init>", desc := "()V" } : Jvm.MethodName)) ∈ kw_all := List.mem_of_getElem? (i := 342) rfl
theorem kj_343 : (Jvm.Cond.instanceMethod ({ cls := "CacheYardModel", name := "<init>", desc := "()V" } : Jvm.MethodName)) ∈ kw_all := List.mem_of_getElem? (i := 343) rfl
theorem kj_344 : (Jvm.Cond.code ({ cls := "CacheYardModel", name := "<init>", desc := "()V" } : Jvm.MethodName) prog_5_method_1_code (1 : Nat) (Option.none : Option Jvm.ClassFile.FieldType)) ∈ kw_all := List.mem_of_getElem? (i := 344) rfl
theorem kj_345 : (Jvm.Cond.methodLink "CacheYardModel" (1 : Nat) ({ cls := "java/lang/Object", name := "<init>", desc := "()V" } : Jvm.MethodName)) ∈ kw_all := List.mem_of_getElem? (i := 345) rfl
theorem kj_346 : (Jvm.Cond.fieldLink "CacheYardModel" (65 : Nat) "CacheYardModel" "thrown" "I") ∈ kw_all := List.mem_of_getElem? (i := 346) rfl
theorem kj_347 : (Jvm.Cond.fieldLink "CacheYardModel" (92 : Nat) "CacheYardModel" "accesses" "I") ∈ kw_all := List.mem_of_getElem? (i := 347) rfl
theorem kj_348 : (Jvm.Cond.fieldLink "CacheYardModel" (7 : Nat) "CacheYardModel" "address" "[I") ∈ kw_all := List.mem_of_getElem? (i := 348) rfl
theorem kj_349 : (Jvm.Cond.fieldLink "CacheYardModel" (13 : Nat) "CacheYardModel" "there" "[Z") ∈ kw_all := List.mem_of_getElem? (i := 349) rfl
theorem kj_350 : (Jvm.Cond.fieldLink "CacheYardModel" (17 : Nat) "CacheYardModel" "setBits" "[I") ∈ kw_all := List.mem_of_getElem? (i := 350) rfl
theorem kj_351 : (Jvm.Cond.fieldLink "CacheYardModel" (20 : Nat) "CacheYardModel" "ways" "[I") ∈ kw_all := List.mem_of_getElem? (i := 351) rfl
theorem kj_352 : (Jvm.Cond.fieldLink "CacheYardModel" (23 : Nat) "CacheYardModel" "kinds" "[I") ∈ kw_all := List.mem_of_getElem? (i := 352) rfl
theorem kj_353 : (Jvm.Cond.fieldLink "CacheYardModel" (26 : Nat) "CacheYardModel" "bits" "[I") ∈ kw_all := List.mem_of_getElem? (i := 353) rfl
theorem kj_354 : (Jvm.Cond.fieldLink "CacheYardModel" (29 : Nat) "CacheYardModel" "hits" "[I") ∈ kw_all := List.mem_of_getElem? (i := 354) rfl
theorem kj_355 : (Jvm.Cond.fieldLink "CacheYardModel" (32 : Nat) "CacheYardModel" "misses" "[I") ∈ kw_all := List.mem_of_getElem? (i := 355) rfl
theorem kj_356 : (Jvm.Cond.fieldLink "CacheYardModel" (35 : Nat) "CacheYardModel" "victims" "[I") ∈ kw_all := List.mem_of_getElem? (i := 356) rfl
theorem kj_357 : (Jvm.Cond.fieldLink "CacheYardModel" (38 : Nat) "CacheYardModel" "written" "[I") ∈ kw_all := List.mem_of_getElem? (i := 357) rfl
theorem kj_358 : (Jvm.Cond.fieldLink "CacheYardModel" (41 : Nat) "CacheYardModel" "block" "[I") ∈ kw_all := List.mem_of_getElem? (i := 358) rfl
theorem kj_359 : (Jvm.Cond.fieldLink "CacheYardModel" (44 : Nat) "CacheYardModel" "dirty" "[Z") ∈ kw_all := List.mem_of_getElem? (i := 359) rfl
theorem kj_360 : (Jvm.Cond.fieldLink "CacheYardModel" (47 : Nat) "CacheYardModel" "latest" "[I") ∈ kw_all := List.mem_of_getElem? (i := 360) rfl
theorem kj_361 : (Jvm.Cond.fieldLink "CacheYardModel" (50 : Nat) "CacheYardModel" "came" "[I") ∈ kw_all := List.mem_of_getElem? (i := 361) rfl
theorem kj_362 : (Jvm.Cond.fieldLink "CacheYardModel" (53 : Nat) "CacheYardModel" "points" "[Z") ∈ kw_all := List.mem_of_getElem? (i := 362) rfl
theorem kj_363 : (Jvm.Cond.fieldLink "CacheYardModel" (111 : Nat) "CacheYardModel" "lineCount" "I") ∈ kw_all := List.mem_of_getElem? (i := 363) rfl
theorem kj_364 : (Jvm.Cond.fieldLink "CacheYardModel" (56 : Nat) "CacheYardModel" "line" "[I") ∈ kw_all := List.mem_of_getElem? (i := 364) rfl
theorem kj_365 : (Jvm.Cond.fieldLink "CacheYardModel" (59 : Nat) "CacheYardModel" "asked" "[I") ∈ kw_all := List.mem_of_getElem? (i := 365) rfl
theorem kj_366 : (Jvm.Cond.fieldLink "CacheYardModel" (117 : Nat) "CacheYardModel" "kept" "I") ∈ kw_all := List.mem_of_getElem? (i := 366) rfl
theorem kj_367 : (Jvm.Cond.fieldLink "CacheYardModel" (62 : Nat) "CacheYardModel" "ends" "[I") ∈ kw_all := List.mem_of_getElem? (i := 367) rfl
theorem kj_368 : (Jvm.Cond.lays "CacheYardModel" "CacheYardModel" "thrown" "I") ∈ kw_all := List.mem_of_getElem? (i := 368) rfl
theorem kj_369 : (Jvm.Cond.lays "CacheYardModel" "CacheYardModel" "accesses" "I") ∈ kw_all := List.mem_of_getElem? (i := 369) rfl
theorem kj_370 : (Jvm.Cond.laysFinal "CacheYardModel" "CacheYardModel" "address" "[I") ∈ kw_all := List.mem_of_getElem? (i := 370) rfl
theorem kj_371 : (Jvm.Cond.laysFinal "CacheYardModel" "CacheYardModel" "there" "[Z") ∈ kw_all := List.mem_of_getElem? (i := 371) rfl
theorem kj_372 : (Jvm.Cond.laysFinal "CacheYardModel" "CacheYardModel" "setBits" "[I") ∈ kw_all := List.mem_of_getElem? (i := 372) rfl
theorem kj_373 : (Jvm.Cond.laysFinal "CacheYardModel" "CacheYardModel" "ways" "[I") ∈ kw_all := List.mem_of_getElem? (i := 373) rfl
theorem kj_374 : (Jvm.Cond.laysFinal "CacheYardModel" "CacheYardModel" "kinds" "[I") ∈ kw_all := List.mem_of_getElem? (i := 374) rfl
theorem kj_375 : (Jvm.Cond.laysFinal "CacheYardModel" "CacheYardModel" "bits" "[I") ∈ kw_all := List.mem_of_getElem? (i := 375) rfl
theorem kj_376 : (Jvm.Cond.laysFinal "CacheYardModel" "CacheYardModel" "hits" "[I") ∈ kw_all := List.mem_of_getElem? (i := 376) rfl
theorem kj_377 : (Jvm.Cond.laysFinal "CacheYardModel" "CacheYardModel" "misses" "[I") ∈ kw_all := List.mem_of_getElem? (i := 377) rfl
theorem kj_378 : (Jvm.Cond.laysFinal "CacheYardModel" "CacheYardModel" "victims" "[I") ∈ kw_all := List.mem_of_getElem? (i := 378) rfl
theorem kj_379 : (Jvm.Cond.laysFinal "CacheYardModel" "CacheYardModel" "written" "[I") ∈ kw_all := List.mem_of_getElem? (i := 379) rfl
theorem kj_380 : (Jvm.Cond.laysFinal "CacheYardModel" "CacheYardModel" "block" "[I") ∈ kw_all := List.mem_of_getElem? (i := 380) rfl
theorem kj_381 : (Jvm.Cond.laysFinal "CacheYardModel" "CacheYardModel" "dirty" "[Z") ∈ kw_all := List.mem_of_getElem? (i := 381) rfl
theorem kj_382 : (Jvm.Cond.laysFinal "CacheYardModel" "CacheYardModel" "latest" "[I") ∈ kw_all := List.mem_of_getElem? (i := 382) rfl
theorem kj_383 : (Jvm.Cond.laysFinal "CacheYardModel" "CacheYardModel" "came" "[I") ∈ kw_all := List.mem_of_getElem? (i := 383) rfl
theorem kj_384 : (Jvm.Cond.laysFinal "CacheYardModel" "CacheYardModel" "points" "[Z") ∈ kw_all := List.mem_of_getElem? (i := 384) rfl
theorem kj_385 : (Jvm.Cond.lays "CacheYardModel" "CacheYardModel" "lineCount" "I") ∈ kw_all := List.mem_of_getElem? (i := 385) rfl
theorem kj_386 : (Jvm.Cond.laysFinal "CacheYardModel" "CacheYardModel" "line" "[I") ∈ kw_all := List.mem_of_getElem? (i := 386) rfl
theorem kj_387 : (Jvm.Cond.laysFinal "CacheYardModel" "CacheYardModel" "asked" "[I") ∈ kw_all := List.mem_of_getElem? (i := 387) rfl
theorem kj_388 : (Jvm.Cond.lays "CacheYardModel" "CacheYardModel" "kept" "I") ∈ kw_all := List.mem_of_getElem? (i := 388) rfl
theorem kj_389 : (Jvm.Cond.laysFinal "CacheYardModel" "CacheYardModel" "ends" "[I") ∈ kw_all := List.mem_of_getElem? (i := 389) rfl
theorem kj_390 : (Jvm.Cond.methodLink "CacheYardLaw" (53 : Nat) ({ cls := "CacheYardModel", name := "thrown", desc := "()I" } : Jvm.MethodName)) ∈ kw_all := List.mem_of_getElem? (i := 390) rfl
theorem kj_391 : (Jvm.Cond.instanceMethod ({ cls := "CacheYardModel", name := "thrown", desc := "()I" } : Jvm.MethodName)) ∈ kw_all := List.mem_of_getElem? (i := 391) rfl
theorem kj_392 : (Jvm.Cond.selects "CacheYardModel" ({ cls := "CacheYardModel", name := "thrown", desc := "()I" } : Jvm.MethodName) ({ cls := "CacheYardModel", name := "thrown", desc := "()I" } : Jvm.MethodName)) ∈ kw_all := List.mem_of_getElem? (i := 392) rfl
theorem kj_393 : (Jvm.Cond.code ({ cls := "CacheYardModel", name := "thrown", desc := "()I" } : Jvm.MethodName) prog_5_method_2_code (1 : Nat) (Option.some Jvm.ClassFile.FieldType.int)) ∈ kw_all := List.mem_of_getElem? (i := 393) rfl
theorem kj_394 : (Jvm.Cond.methodLink "CacheYardLaw" (52 : Nat) ({ cls := "CacheYardModel", name := "make", desc := "(IIIII)V" } : Jvm.MethodName)) ∈ kw_all := List.mem_of_getElem? (i := 394) rfl
theorem kj_395 : (Jvm.Cond.instanceMethod ({ cls := "CacheYardModel", name := "make", desc := "(IIIII)V" } : Jvm.MethodName)) ∈ kw_all := List.mem_of_getElem? (i := 395) rfl
theorem kj_396 : (Jvm.Cond.selects "CacheYardModel" ({ cls := "CacheYardModel", name := "make", desc := "(IIIII)V" } : Jvm.MethodName) ({ cls := "CacheYardModel", name := "make", desc := "(IIIII)V" } : Jvm.MethodName)) ∈ kw_all := List.mem_of_getElem? (i := 396) rfl
theorem kj_397 : (Jvm.Cond.code ({ cls := "CacheYardModel", name := "make", desc := "(IIIII)V" } : Jvm.MethodName) prog_5_method_7_code (8 : Nat) (Option.none : Option Jvm.ClassFile.FieldType)) ∈ kw_all := List.mem_of_getElem? (i := 397) rfl
theorem kj_398 : (Jvm.Cond.methodLink "CacheYardModel" (69 : Nat) ({ cls := "CacheYardModel", name := "in", desc := "(III)Z" } : Jvm.MethodName)) ∈ kw_all := List.mem_of_getElem? (i := 398) rfl
theorem kj_399 : (Jvm.Cond.static ({ cls := "CacheYardModel", name := "in", desc := "(III)Z" } : Jvm.MethodName)) ∈ kw_all := List.mem_of_getElem? (i := 399) rfl
theorem kj_400 : (Jvm.Cond.code ({ cls := "CacheYardModel", name := "in", desc := "(III)Z" } : Jvm.MethodName) prog_5_method_4_code (3 : Nat) (Option.some Jvm.ClassFile.FieldType.boolean)) ∈ kw_all := List.mem_of_getElem? (i := 400) rfl
theorem kj_401 : (Jvm.Cond.methodLink "CacheYardModel" (73 : Nat) ({ cls := "CacheYardModel", name := "refuse", desc := "(ZZZ)Z" } : Jvm.MethodName)) ∈ kw_all := List.mem_of_getElem? (i := 401) rfl
theorem kj_402 : (Jvm.Cond.instanceMethod ({ cls := "CacheYardModel", name := "refuse", desc := "(ZZZ)Z" } : Jvm.MethodName)) ∈ kw_all := List.mem_of_getElem? (i := 402) rfl
theorem kj_403 : (Jvm.Cond.code ({ cls := "CacheYardModel", name := "refuse", desc := "(ZZZ)Z" } : Jvm.MethodName) prog_5_method_3_code (4 : Nat) (Option.some Jvm.ClassFile.FieldType.boolean)) ∈ kw_all := List.mem_of_getElem? (i := 403) rfl
theorem kj_404 : (Jvm.Cond.methodLink "CacheYardModel" (77 : Nat) ({ cls := "CacheYardModel", name := "empty", desc := "(I)V" } : Jvm.MethodName)) ∈ kw_all := List.mem_of_getElem? (i := 404) rfl
theorem kj_405 : (Jvm.Cond.instanceMethod ({ cls := "CacheYardModel", name := "empty", desc := "(I)V" } : Jvm.MethodName)) ∈ kw_all := List.mem_of_getElem? (i := 405) rfl
theorem kj_406 : (Jvm.Cond.code ({ cls := "CacheYardModel", name := "empty", desc := "(I)V" } : Jvm.MethodName) prog_5_method_6_code (3 : Nat) (Option.none : Option Jvm.ClassFile.FieldType)) ∈ kw_all := List.mem_of_getElem? (i := 406) rfl
theorem kj_407 : (Jvm.Cond.methodLink "CacheYardLaw" (60 : Nat) ({ cls := "CacheYardModel", name := "access", desc := "(IZ)I" } : Jvm.MethodName)) ∈ kw_all := List.mem_of_getElem? (i := 407) rfl
theorem kj_408 : (Jvm.Cond.instanceMethod ({ cls := "CacheYardModel", name := "access", desc := "(IZ)I" } : Jvm.MethodName)) ∈ kw_all := List.mem_of_getElem? (i := 408) rfl
theorem kj_409 : (Jvm.Cond.selects "CacheYardModel" ({ cls := "CacheYardModel", name := "access", desc := "(IZ)I" } : Jvm.MethodName) ({ cls := "CacheYardModel", name := "access", desc := "(IZ)I" } : Jvm.MethodName)) ∈ kw_all := List.mem_of_getElem? (i := 409) rfl
theorem kj_410 : (Jvm.Cond.code ({ cls := "CacheYardModel", name := "access", desc := "(IZ)I" } : Jvm.MethodName) prog_5_method_13_code (7 : Nat) (Option.some Jvm.ClassFile.FieldType.int)) ∈ kw_all := List.mem_of_getElem? (i := 410) rfl
theorem kj_411 : (Jvm.Cond.methodLink "CacheYardModel" (99 : Nat) ({ cls := "CacheYardModel", name := "see", desc := "(IIZ)Z" } : Jvm.MethodName)) ∈ kw_all := List.mem_of_getElem? (i := 411) rfl
theorem kj_412 : (Jvm.Cond.instanceMethod ({ cls := "CacheYardModel", name := "see", desc := "(IIZ)Z" } : Jvm.MethodName)) ∈ kw_all := List.mem_of_getElem? (i := 412) rfl
theorem kj_413 : (Jvm.Cond.code ({ cls := "CacheYardModel", name := "see", desc := "(IIZ)Z" } : Jvm.MethodName) prog_5_method_12_code (8 : Nat) (Option.some Jvm.ClassFile.FieldType.boolean)) ∈ kw_all := List.mem_of_getElem? (i := 413) rfl
theorem kj_414 : (Jvm.Cond.methodLink "CacheYardModel" (85 : Nat) ({ cls := "CacheYardModel", name := "placeOf", desc := "(III)I" } : Jvm.MethodName)) ∈ kw_all := List.mem_of_getElem? (i := 414) rfl
theorem kj_415 : (Jvm.Cond.instanceMethod ({ cls := "CacheYardModel", name := "placeOf", desc := "(III)I" } : Jvm.MethodName)) ∈ kw_all := List.mem_of_getElem? (i := 415) rfl
theorem kj_416 : (Jvm.Cond.code ({ cls := "CacheYardModel", name := "placeOf", desc := "(III)I" } : Jvm.MethodName) prog_5_method_11_code (6 : Nat) (Option.some Jvm.ClassFile.FieldType.int)) ∈ kw_all := List.mem_of_getElem? (i := 416) rfl
theorem kj_417 : (Jvm.Cond.methodLink "CacheYardModel" (89 : Nat) ({ cls := "CacheYardModel", name := "victimOf", desc := "(II)I" } : Jvm.MethodName)) ∈ kw_all := List.mem_of_getElem? (i := 417) rfl
theorem kj_418 : (Jvm.Cond.instanceMethod ({ cls := "CacheYardModel", name := "victimOf", desc := "(II)I" } : Jvm.MethodName)) ∈ kw_all := List.mem_of_getElem? (i := 418) rfl
theorem kj_419 : (Jvm.Cond.code ({ cls := "CacheYardModel", name := "victimOf", desc := "(II)I" } : Jvm.MethodName) prog_5_method_10_code (6 : Nat) (Option.some Jvm.ClassFile.FieldType.int)) ∈ kw_all := List.mem_of_getElem? (i := 419) rfl
theorem kj_420 : (Jvm.Cond.methodLink "CacheYardModel" (81 : Nat) ({ cls := "CacheYardModel", name := "pointed", desc := "(II)I" } : Jvm.MethodName)) ∈ kw_all := List.mem_of_getElem? (i := 420) rfl
theorem kj_421 : (Jvm.Cond.instanceMethod ({ cls := "CacheYardModel", name := "pointed", desc := "(II)I" } : Jvm.MethodName)) ∈ kw_all := List.mem_of_getElem? (i := 421) rfl
theorem kj_422 : (Jvm.Cond.code ({ cls := "CacheYardModel", name := "pointed", desc := "(II)I" } : Jvm.MethodName) prog_5_method_9_code (7 : Nat) (Option.some Jvm.ClassFile.FieldType.int)) ∈ kw_all := List.mem_of_getElem? (i := 422) rfl
theorem kj_423 : (Jvm.Cond.methodLink "CacheYardModel" (95 : Nat) ({ cls := "CacheYardModel", name := "turn", desc := "(III)V" } : Jvm.MethodName)) ∈ kw_all := List.mem_of_getElem? (i := 423) rfl
theorem kj_424 : (Jvm.Cond.instanceMethod ({ cls := "CacheYardModel", name := "turn", desc := "(III)V" } : Jvm.MethodName)) ∈ kw_all := List.mem_of_getElem? (i := 424) rfl
theorem kj_425 : (Jvm.Cond.code ({ cls := "CacheYardModel", name := "turn", desc := "(III)V" } : Jvm.MethodName) prog_5_method_8_code (8 : Nat) (Option.none : Option Jvm.ClassFile.FieldType)) ∈ kw_all := List.mem_of_getElem? (i := 425) rfl
theorem kj_426 : (Jvm.Cond.methodLink "CacheYardLaw" (64 : Nat) ({ cls := "CacheYardModel", name := "flush", desc := "(I)I" } : Jvm.MethodName)) ∈ kw_all := List.mem_of_getElem? (i := 426) rfl
theorem kj_427 : (Jvm.Cond.instanceMethod ({ cls := "CacheYardModel", name := "flush", desc := "(I)I" } : Jvm.MethodName)) ∈ kw_all := List.mem_of_getElem? (i := 427) rfl
theorem kj_428 : (Jvm.Cond.selects "CacheYardModel" ({ cls := "CacheYardModel", name := "flush", desc := "(I)I" } : Jvm.MethodName) ({ cls := "CacheYardModel", name := "flush", desc := "(I)I" } : Jvm.MethodName)) ∈ kw_all := List.mem_of_getElem? (i := 428) rfl
theorem kj_429 : (Jvm.Cond.code ({ cls := "CacheYardModel", name := "flush", desc := "(I)I" } : Jvm.MethodName) prog_5_method_15_code (3 : Nat) (Option.some Jvm.ClassFile.FieldType.int)) ∈ kw_all := List.mem_of_getElem? (i := 429) rfl
theorem kj_430 : (Jvm.Cond.methodLink "CacheYardModel" (103 : Nat) ({ cls := "CacheYardModel", name := "isThere", desc := "(I)Z" } : Jvm.MethodName)) ∈ kw_all := List.mem_of_getElem? (i := 430) rfl
theorem kj_431 : (Jvm.Cond.instanceMethod ({ cls := "CacheYardModel", name := "isThere", desc := "(I)Z" } : Jvm.MethodName)) ∈ kw_all := List.mem_of_getElem? (i := 431) rfl
theorem kj_432 : (Jvm.Cond.code ({ cls := "CacheYardModel", name := "isThere", desc := "(I)Z" } : Jvm.MethodName) prog_5_method_5_code (2 : Nat) (Option.some Jvm.ClassFile.FieldType.boolean)) ∈ kw_all := List.mem_of_getElem? (i := 432) rfl
theorem kj_433 : (Jvm.Cond.methodLink "CacheYardModel" (107 : Nat) ({ cls := "CacheYardModel", name := "count", desc := "(IZ)I" } : Jvm.MethodName)) ∈ kw_all := List.mem_of_getElem? (i := 433) rfl
theorem kj_434 : (Jvm.Cond.instanceMethod ({ cls := "CacheYardModel", name := "count", desc := "(IZ)I" } : Jvm.MethodName)) ∈ kw_all := List.mem_of_getElem? (i := 434) rfl
theorem kj_435 : (Jvm.Cond.code ({ cls := "CacheYardModel", name := "count", desc := "(IZ)I" } : Jvm.MethodName) prog_5_method_14_code (5 : Nat) (Option.some Jvm.ClassFile.FieldType.int)) ∈ kw_all := List.mem_of_getElem? (i := 435) rfl
theorem kj_436 : (Jvm.Cond.methodLink "CacheYardLaw" (68 : Nat) ({ cls := "CacheYardModel", name := "place", desc := "(IIII)I" } : Jvm.MethodName)) ∈ kw_all := List.mem_of_getElem? (i := 436) rfl
theorem kj_437 : (Jvm.Cond.instanceMethod ({ cls := "CacheYardModel", name := "place", desc := "(IIII)I" } : Jvm.MethodName)) ∈ kw_all := List.mem_of_getElem? (i := 437) rfl
theorem kj_438 : (Jvm.Cond.selects "CacheYardModel" ({ cls := "CacheYardModel", name := "place", desc := "(IIII)I" } : Jvm.MethodName) ({ cls := "CacheYardModel", name := "place", desc := "(IIII)I" } : Jvm.MethodName)) ∈ kw_all := List.mem_of_getElem? (i := 438) rfl
theorem kj_439 : (Jvm.Cond.code ({ cls := "CacheYardModel", name := "place", desc := "(IIII)I" } : Jvm.MethodName) prog_5_method_16_code (8 : Nat) (Option.some Jvm.ClassFile.FieldType.int)) ∈ kw_all := List.mem_of_getElem? (i := 439) rfl
theorem kj_440 : (Jvm.Cond.methodLink "CacheYardLaw" (72 : Nat) ({ cls := "CacheYardModel", name := "about", desc := "(II)I" } : Jvm.MethodName)) ∈ kw_all := List.mem_of_getElem? (i := 440) rfl
theorem kj_441 : (Jvm.Cond.instanceMethod ({ cls := "CacheYardModel", name := "about", desc := "(II)I" } : Jvm.MethodName)) ∈ kw_all := List.mem_of_getElem? (i := 441) rfl
theorem kj_442 : (Jvm.Cond.selects "CacheYardModel" ({ cls := "CacheYardModel", name := "about", desc := "(II)I" } : Jvm.MethodName) ({ cls := "CacheYardModel", name := "about", desc := "(II)I" } : Jvm.MethodName)) ∈ kw_all := List.mem_of_getElem? (i := 442) rfl
theorem kj_443 : (Jvm.Cond.code ({ cls := "CacheYardModel", name := "about", desc := "(II)I" } : Jvm.MethodName) prog_5_method_17_code (4 : Nat) (Option.some Jvm.ClassFile.FieldType.int)) ∈ kw_all := List.mem_of_getElem? (i := 443) rfl
theorem kj_444 : (Jvm.Cond.methodLink "CacheYardLaw" (76 : Nat) ({ cls := "CacheYardModel", name := "accesses", desc := "()I" } : Jvm.MethodName)) ∈ kw_all := List.mem_of_getElem? (i := 444) rfl
theorem kj_445 : (Jvm.Cond.instanceMethod ({ cls := "CacheYardModel", name := "accesses", desc := "()I" } : Jvm.MethodName)) ∈ kw_all := List.mem_of_getElem? (i := 445) rfl
theorem kj_446 : (Jvm.Cond.selects "CacheYardModel" ({ cls := "CacheYardModel", name := "accesses", desc := "()I" } : Jvm.MethodName) ({ cls := "CacheYardModel", name := "accesses", desc := "()I" } : Jvm.MethodName)) ∈ kw_all := List.mem_of_getElem? (i := 446) rfl
theorem kj_447 : (Jvm.Cond.code ({ cls := "CacheYardModel", name := "accesses", desc := "()I" } : Jvm.MethodName) prog_5_method_18_code (1 : Nat) (Option.some Jvm.ClassFile.FieldType.int)) ∈ kw_all := List.mem_of_getElem? (i := 447) rfl
theorem kj_448 : (Jvm.Cond.methodLink "CacheYardLaw" (79 : Nat) ({ cls := "CacheYardModel", name := "curve", desc := "(II)I" } : Jvm.MethodName)) ∈ kw_all := List.mem_of_getElem? (i := 448) rfl
theorem kj_449 : (Jvm.Cond.instanceMethod ({ cls := "CacheYardModel", name := "curve", desc := "(II)I" } : Jvm.MethodName)) ∈ kw_all := List.mem_of_getElem? (i := 449) rfl
theorem kj_450 : (Jvm.Cond.selects "CacheYardModel" ({ cls := "CacheYardModel", name := "curve", desc := "(II)I" } : Jvm.MethodName) ({ cls := "CacheYardModel", name := "curve", desc := "(II)I" } : Jvm.MethodName)) ∈ kw_all := List.mem_of_getElem? (i := 450) rfl
theorem kj_451 : (Jvm.Cond.code ({ cls := "CacheYardModel", name := "curve", desc := "(II)I" } : Jvm.MethodName) prog_5_method_20_code (5 : Nat) (Option.some Jvm.ClassFile.FieldType.int)) ∈ kw_all := List.mem_of_getElem? (i := 451) rfl
theorem kj_452 : (Jvm.Cond.methodLink "CacheYardModel" (114 : Nat) ({ cls := "CacheYardModel", name := "comes", desc := "(III)Z" } : Jvm.MethodName)) ∈ kw_all := List.mem_of_getElem? (i := 452) rfl
theorem kj_453 : (Jvm.Cond.instanceMethod ({ cls := "CacheYardModel", name := "comes", desc := "(III)Z" } : Jvm.MethodName)) ∈ kw_all := List.mem_of_getElem? (i := 453) rfl
theorem kj_454 : (Jvm.Cond.code ({ cls := "CacheYardModel", name := "comes", desc := "(III)Z" } : Jvm.MethodName) prog_5_method_19_code (7 : Nat) (Option.some Jvm.ClassFile.FieldType.boolean)) ∈ kw_all := List.mem_of_getElem? (i := 454) rfl
theorem kj_455 : (Jvm.Cond.methodLink "CacheYardLaw" (82 : Nat) ({ cls := "CacheYardModel", name := "best", desc := "(II)I" } : Jvm.MethodName)) ∈ kw_all := List.mem_of_getElem? (i := 455) rfl
theorem kj_456 : (Jvm.Cond.instanceMethod ({ cls := "CacheYardModel", name := "best", desc := "(II)I" } : Jvm.MethodName)) ∈ kw_all := List.mem_of_getElem? (i := 456) rfl
theorem kj_457 : (Jvm.Cond.selects "CacheYardModel" ({ cls := "CacheYardModel", name := "best", desc := "(II)I" } : Jvm.MethodName) ({ cls := "CacheYardModel", name := "best", desc := "(II)I" } : Jvm.MethodName)) ∈ kw_all := List.mem_of_getElem? (i := 457) rfl
theorem kj_458 : (Jvm.Cond.code ({ cls := "CacheYardModel", name := "best", desc := "(II)I" } : Jvm.MethodName) prog_5_method_22_code (9 : Nat) (Option.some Jvm.ClassFile.FieldType.int)) ∈ kw_all := List.mem_of_getElem? (i := 458) rfl
theorem kj_459 : (Jvm.Cond.methodLink "CacheYardModel" (120 : Nat) ({ cls := "CacheYardModel", name := "nextOf", desc := "(II)I" } : Jvm.MethodName)) ∈ kw_all := List.mem_of_getElem? (i := 459) rfl
theorem kj_460 : (Jvm.Cond.instanceMethod ({ cls := "CacheYardModel", name := "nextOf", desc := "(II)I" } : Jvm.MethodName)) ∈ kw_all := List.mem_of_getElem? (i := 460) rfl
theorem kj_461 : (Jvm.Cond.code ({ cls := "CacheYardModel", name := "nextOf", desc := "(II)I" } : Jvm.MethodName) prog_5_method_21_code (4 : Nat) (Option.some Jvm.ClassFile.FieldType.int)) ∈ kw_all := List.mem_of_getElem? (i := 461) rfl
theorem kj_462 : (Jvm.Cond.arrayClass Jvm.ClassFile.FieldType.long) ∈ kw_all := List.mem_of_getElem? (i := 462) rfl
