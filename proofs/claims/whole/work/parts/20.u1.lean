set_option maxRecDepth 100000 in
theorem t_948 : (Jvm.Cond.instanceMethod ({ cls := "ChangePlaces", name := "book", desc := "()I" } : Jvm.MethodName)) ∈ qx_tbl := qx_t4 228 rfl rfl
set_option maxRecDepth 100000 in
theorem t_949 : (Jvm.Cond.selects "ChangePlaces" ({ cls := "ChangePlaces", name := "book", desc := "()I" } : Jvm.MethodName) ({ cls := "ChangePlaces", name := "book", desc := "()I" } : Jvm.MethodName)) ∈ qx_tbl := qx_t4 229 rfl rfl
set_option maxRecDepth 100000 in
theorem t_950 : (Jvm.Cond.code ({ cls := "ChangePlaces", name := "book", desc := "()I" } : Jvm.MethodName) prog_1_method_21_code (1 : Nat) (Option.some Jvm.ClassFile.FieldType.int)) ∈ qx_tbl := qx_t4 230 rfl rfl
set_option maxRecDepth 100000 in
theorem t_951 : (Jvm.Cond.methodLink "ChangePlaces" (269 : Nat) ({ cls := "ChangePlaces$Ring", name := "copyFrom", desc := "(LChangePlaces$Ring;)V" } : Jvm.MethodName)) ∈ qx_tbl := qx_t4 231 rfl rfl
set_option maxRecDepth 100000 in
theorem t_952 : (Jvm.Cond.instanceMethod ({ cls := "ChangePlaces$Ring", name := "copyFrom", desc := "(LChangePlaces$Ring;)V" } : Jvm.MethodName)) ∈ qx_tbl := qx_t4 232 rfl rfl
set_option maxRecDepth 100000 in
theorem t_953 : (Jvm.Cond.selects "ChangePlaces$Ring" ({ cls := "ChangePlaces$Ring", name := "copyFrom", desc := "(LChangePlaces$Ring;)V" } : Jvm.MethodName) ({ cls := "ChangePlaces$Ring", name := "copyFrom", desc := "(LChangePlaces$Ring;)V" } : Jvm.MethodName)) ∈ qx_tbl := qx_t4 233 rfl rfl
set_option maxRecDepth 100000 in
theorem t_954 : (Jvm.Cond.code ({ cls := "ChangePlaces$Ring", name := "copyFrom", desc := "(LChangePlaces$Ring;)V" } : Jvm.MethodName) prog_6_method_2_code (2 : Nat) (Option.none : Option Jvm.ClassFile.FieldType)) ∈ qx_tbl := qx_t4 234 rfl rfl
set_option maxRecDepth 100000 in
theorem t_955 : (Jvm.Cond.methodLink "ChangePlaces$Ring" (19 : Nat) ({ cls := "java/lang/System", name := "arraycopy", desc := "(Ljava/lang/Object;ILjava/lang/Object;II)V" } : Jvm.MethodName)) ∈ qx_tbl := qx_t4 235 rfl rfl
set_option maxRecDepth 100000 in
theorem t_956 : (Jvm.Cond.methodLink "ChangePlacesLaw" (94 : Nat) ({ cls := "ChangePlaces", name := "burn", desc := "()I" } : Jvm.MethodName)) ∈ qx_tbl := qx_t4 236 rfl rfl
set_option maxRecDepth 100000 in
theorem t_957 : (Jvm.Cond.instanceMethod ({ cls := "ChangePlaces", name := "burn", desc := "()I" } : Jvm.MethodName)) ∈ qx_tbl := qx_t4 237 rfl rfl
set_option maxRecDepth 100000 in
theorem t_958 : (Jvm.Cond.selects "ChangePlaces" ({ cls := "ChangePlaces", name := "burn", desc := "()I" } : Jvm.MethodName) ({ cls := "ChangePlaces", name := "burn", desc := "()I" } : Jvm.MethodName)) ∈ qx_tbl := qx_t4 238 rfl rfl
set_option maxRecDepth 100000 in
theorem t_959 : (Jvm.Cond.code ({ cls := "ChangePlaces", name := "burn", desc := "()I" } : Jvm.MethodName) prog_1_method_22_code (2 : Nat) (Option.some Jvm.ClassFile.FieldType.int)) ∈ qx_tbl := qx_t4 239 rfl rfl
set_option maxRecDepth 100000 in
theorem t_960 : (Jvm.Cond.methodLink "ChangePlacesLaw" (98 : Nat) ({ cls := "ChangePlaces", name := "judged", desc := "(I)I" } : Jvm.MethodName)) ∈ qx_tbl := qx_t5 0 rfl rfl
set_option maxRecDepth 100000 in
theorem t_961 : (Jvm.Cond.instanceMethod ({ cls := "ChangePlaces", name := "judged", desc := "(I)I" } : Jvm.MethodName)) ∈ qx_tbl := qx_t5 1 rfl rfl
set_option maxRecDepth 100000 in
theorem t_962 : (Jvm.Cond.selects "ChangePlaces" ({ cls := "ChangePlaces", name := "judged", desc := "(I)I" } : Jvm.MethodName) ({ cls := "ChangePlaces", name := "judged", desc := "(I)I" } : Jvm.MethodName)) ∈ qx_tbl := qx_t5 2 rfl rfl
set_option maxRecDepth 100000 in
theorem t_963 : (Jvm.Cond.code ({ cls := "ChangePlaces", name := "judged", desc := "(I)I" } : Jvm.MethodName) prog_1_method_23_code (3 : Nat) (Option.some Jvm.ClassFile.FieldType.int)) ∈ qx_tbl := qx_t5 3 rfl rfl
set_option maxRecDepth 100000 in
theorem t_964 : (Jvm.Cond.methodLink "ChangePlaces" (273 : Nat) ({ cls := "ChangePlaces", name := "judgeBook", desc := "()I" } : Jvm.MethodName)) ∈ qx_tbl := qx_t5 4 rfl rfl
set_option maxRecDepth 100000 in
theorem t_966 : (Jvm.Cond.instanceMethod ({ cls := "ChangePlaces", name := "judgeBook", desc := "()I" } : Jvm.MethodName)) ∈ qx_tbl := qx_t5 6 rfl rfl
set_option maxRecDepth 100000 in
theorem t_967 : (Jvm.Cond.code ({ cls := "ChangePlaces", name := "judgeBook", desc := "()I" } : Jvm.MethodName) prog_1_method_52_code (3 : Nat) (Option.some Jvm.ClassFile.FieldType.int)) ∈ qx_tbl := qx_t5 7 rfl rfl
set_option maxRecDepth 100000 in
theorem t_968 : (Jvm.Cond.methodLink "ChangePlaces" (407 : Nat) ({ cls := "java/lang/System", name := "arraycopy", desc := "(Ljava/lang/Object;ILjava/lang/Object;II)V" } : Jvm.MethodName)) ∈ qx_tbl := qx_t5 8 rfl rfl
set_option maxRecDepth 100000 in
theorem t_969 : (Jvm.Cond.methodLink "ChangePlaces" (413 : Nat) ({ cls := "ChangePlaces$Ring", name := "shift", desc := "([I)V" } : Jvm.MethodName)) ∈ qx_tbl := qx_t5 9 rfl rfl
set_option maxRecDepth 100000 in
theorem t_970 : (Jvm.Cond.methodLink "ChangePlacesLaw" (102 : Nat) ({ cls := "ChangePlaces", name := "then", desc := "(I)I" } : Jvm.MethodName)) ∈ qx_tbl := qx_t5 10 rfl rfl
set_option maxRecDepth 100000 in
theorem t_971 : (Jvm.Cond.instanceMethod ({ cls := "ChangePlaces", name := "then", desc := "(I)I" } : Jvm.MethodName)) ∈ qx_tbl := qx_t5 11 rfl rfl
set_option maxRecDepth 100000 in
theorem t_972 : (Jvm.Cond.selects "ChangePlaces" ({ cls := "ChangePlaces", name := "then", desc := "(I)I" } : Jvm.MethodName) ({ cls := "ChangePlaces", name := "then", desc := "(I)I" } : Jvm.MethodName)) ∈ qx_tbl := qx_t5 12 rfl rfl
set_option maxRecDepth 100000 in
theorem t_973 : (Jvm.Cond.code ({ cls := "ChangePlaces", name := "then", desc := "(I)I" } : Jvm.MethodName) prog_1_method_24_code (2 : Nat) (Option.some Jvm.ClassFile.FieldType.int)) ∈ qx_tbl := qx_t5 13 rfl rfl
set_option maxRecDepth 100000 in
theorem t_974 : (Jvm.Cond.methodLink "ChangePlacesLaw" (106 : Nat) ({ cls := "ChangePlaces", name := "laidOut", desc := "(I)I" } : Jvm.MethodName)) ∈ qx_tbl := qx_t5 14 rfl rfl
set_option maxRecDepth 100000 in
theorem t_975 : (Jvm.Cond.instanceMethod ({ cls := "ChangePlaces", name := "laidOut", desc := "(I)I" } : Jvm.MethodName)) ∈ qx_tbl := qx_t5 15 rfl rfl
set_option maxRecDepth 100000 in
theorem t_976 : (Jvm.Cond.selects "ChangePlaces" ({ cls := "ChangePlaces", name := "laidOut", desc := "(I)I" } : Jvm.MethodName) ({ cls := "ChangePlaces", name := "laidOut", desc := "(I)I" } : Jvm.MethodName)) ∈ qx_tbl := qx_t5 16 rfl rfl
set_option maxRecDepth 100000 in
theorem t_977 : (Jvm.Cond.code ({ cls := "ChangePlaces", name := "laidOut", desc := "(I)I" } : Jvm.MethodName) prog_1_method_25_code (3 : Nat) (Option.some Jvm.ClassFile.FieldType.int)) ∈ qx_tbl := qx_t5 17 rfl rfl
set_option maxRecDepth 100000 in
theorem t_978 : (Jvm.Cond.methodLink "ChangePlaces" (276 : Nat) ({ cls := "ChangePlaces", name := "layOutBook", desc := "()I" } : Jvm.MethodName)) ∈ qx_tbl := qx_t5 18 rfl rfl
set_option maxRecDepth 100000 in
theorem t_980 : (Jvm.Cond.instanceMethod ({ cls := "ChangePlaces", name := "layOutBook", desc := "()I" } : Jvm.MethodName)) ∈ qx_tbl := qx_t5 20 rfl rfl
set_option maxRecDepth 100000 in
theorem t_981 : (Jvm.Cond.code ({ cls := "ChangePlaces", name := "layOutBook", desc := "()I" } : Jvm.MethodName) prog_1_method_53_code (5 : Nat) (Option.some Jvm.ClassFile.FieldType.int)) ∈ qx_tbl := qx_t5 21 rfl rfl
set_option maxRecDepth 100000 in
theorem t_982 : (Jvm.Cond.methodLink "ChangePlaces" (417 : Nat) ({ cls := "ChangePlaces$Ring", name := "meets", desc := "(LChangePlaces$Ring;)Z" } : Jvm.MethodName)) ∈ qx_tbl := qx_t5 22 rfl rfl
set_option maxRecDepth 100000 in
theorem t_983 : (Jvm.Cond.instanceMethod ({ cls := "ChangePlaces$Ring", name := "meets", desc := "(LChangePlaces$Ring;)Z" } : Jvm.MethodName)) ∈ qx_tbl := qx_t5 23 rfl rfl
set_option maxRecDepth 100000 in
theorem t_984 : (Jvm.Cond.selects "ChangePlaces$Ring" ({ cls := "ChangePlaces$Ring", name := "meets", desc := "(LChangePlaces$Ring;)Z" } : Jvm.MethodName) ({ cls := "ChangePlaces$Ring", name := "meets", desc := "(LChangePlaces$Ring;)Z" } : Jvm.MethodName)) ∈ qx_tbl := qx_t5 24 rfl rfl
set_option maxRecDepth 100000 in
theorem t_985 : (Jvm.Cond.code ({ cls := "ChangePlaces$Ring", name := "meets", desc := "(LChangePlaces$Ring;)Z" } : Jvm.MethodName) prog_6_method_5_code (3 : Nat) (Option.some Jvm.ClassFile.FieldType.boolean)) ∈ qx_tbl := qx_t5 25 rfl rfl
set_option maxRecDepth 100000 in
theorem t_986 : (Jvm.Cond.methodLink "ChangePlaces$Ring" (25 : Nat) ({ cls := "ChangePlaces$Ring", name := "has", desc := "(I)Z" } : Jvm.MethodName)) ∈ qx_tbl := qx_t5 26 rfl rfl
set_option maxRecDepth 100000 in
theorem t_987 : (Jvm.Cond.methodLink "ChangePlaces" (421 : Nat) ({ cls := "java/lang/Math", name := "max", desc := "(II)I" } : Jvm.MethodName)) ∈ qx_tbl := qx_t5 27 rfl rfl
set_option maxRecDepth 100000 in
theorem t_988 : (Jvm.Cond.static ({ cls := "java/lang/Math", name := "max", desc := "(II)I" } : Jvm.MethodName)) ∈ qx_tbl := qx_t5 28 rfl rfl
set_option maxRecDepth 100000 in
theorem t_989 : (Jvm.Cond.code ({ cls := "java/lang/Math", name := "max", desc := "(II)I" } : Jvm.MethodName) prog_16_method_65_code (2 : Nat) (Option.some Jvm.ClassFile.FieldType.int)) ∈ qx_tbl := qx_t5 29 rfl rfl
set_option maxRecDepth 100000 in
theorem t_990 : (Jvm.Cond.methodLink "ChangePlacesLaw" (110 : Nat) ({ cls := "ChangePlaces", name := "changers", desc := "(II)I" } : Jvm.MethodName)) ∈ qx_tbl := qx_t5 30 rfl rfl
set_option maxRecDepth 100000 in
theorem t_991 : (Jvm.Cond.instanceMethod ({ cls := "ChangePlaces", name := "changers", desc := "(II)I" } : Jvm.MethodName)) ∈ qx_tbl := qx_t5 31 rfl rfl
set_option maxRecDepth 100000 in
theorem t_992 : (Jvm.Cond.selects "ChangePlaces" ({ cls := "ChangePlaces", name := "changers", desc := "(II)I" } : Jvm.MethodName) ({ cls := "ChangePlaces", name := "changers", desc := "(II)I" } : Jvm.MethodName)) ∈ qx_tbl := qx_t5 32 rfl rfl
set_option maxRecDepth 100000 in
theorem t_993 : (Jvm.Cond.code ({ cls := "ChangePlaces", name := "changers", desc := "(II)I" } : Jvm.MethodName) prog_1_method_26_code (7 : Nat) (Option.some Jvm.ClassFile.FieldType.int)) ∈ qx_tbl := qx_t5 33 rfl rfl
set_option maxRecDepth 100000 in
theorem t_994 : (Jvm.Cond.methodLink "ChangePlaces" (279 : Nat) ({ cls := "ChangePlaces$Laws", name := "canChange", desc := "(IIII)Z" } : Jvm.MethodName)) ∈ qx_tbl := qx_t5 34 rfl rfl
set_option maxRecDepth 100000 in
theorem t_995 : (Jvm.Cond.instanceMethod ({ cls := "ChangePlaces$Laws", name := "canChange", desc := "(IIII)Z" } : Jvm.MethodName)) ∈ qx_tbl := qx_t5 35 rfl rfl
set_option maxRecDepth 100000 in
theorem t_996 : (Jvm.Cond.selects "ChangePlaces$Laws" ({ cls := "ChangePlaces$Laws", name := "canChange", desc := "(IIII)Z" } : Jvm.MethodName) ({ cls := "ChangePlaces$Laws", name := "canChange", desc := "(IIII)Z" } : Jvm.MethodName)) ∈ qx_tbl := qx_t5 36 rfl rfl
set_option maxRecDepth 100000 in
theorem t_997 : (Jvm.Cond.code ({ cls := "ChangePlaces$Laws", name := "canChange", desc := "(IIII)Z" } : Jvm.MethodName) prog_4_method_10_code (7 : Nat) (Option.some Jvm.ClassFile.FieldType.boolean)) ∈ qx_tbl := qx_t5 37 rfl rfl
set_option maxRecDepth 100000 in
theorem t_998 : (Jvm.Cond.methodLink "ChangePlacesLaw" (114 : Nat) ({ cls := "ChangePlaces", name := "most", desc := "(II)I" } : Jvm.MethodName)) ∈ qx_tbl := qx_t5 38 rfl rfl
set_option maxRecDepth 100000 in
theorem t_999 : (Jvm.Cond.instanceMethod ({ cls := "ChangePlaces", name := "most", desc := "(II)I" } : Jvm.MethodName)) ∈ qx_tbl := qx_t5 39 rfl rfl
set_option maxRecDepth 100000 in
theorem t_1000 : (Jvm.Cond.selects "ChangePlaces" ({ cls := "ChangePlaces", name := "most", desc := "(II)I" } : Jvm.MethodName) ({ cls := "ChangePlaces", name := "most", desc := "(II)I" } : Jvm.MethodName)) ∈ qx_tbl := qx_t5 40 rfl rfl
set_option maxRecDepth 100000 in
theorem t_1001 : (Jvm.Cond.code ({ cls := "ChangePlaces", name := "most", desc := "(II)I" } : Jvm.MethodName) prog_1_method_27_code (3 : Nat) (Option.some Jvm.ClassFile.FieldType.int)) ∈ qx_tbl := qx_t5 41 rfl rfl
set_option maxRecDepth 100000 in
theorem t_1002 : (Jvm.Cond.methodLink "ChangePlaces" (283 : Nat) ({ cls := "ChangePlaces", name := "likesNow", desc := "()[I" } : Jvm.MethodName)) ∈ qx_tbl := qx_t5 42 rfl rfl
set_option maxRecDepth 100000 in
theorem t_1004 : (Jvm.Cond.instanceMethod ({ cls := "ChangePlaces", name := "likesNow", desc := "()[I" } : Jvm.MethodName)) ∈ qx_tbl := qx_t5 44 rfl rfl
set_option maxRecDepth 100000 in
theorem t_1005 : (Jvm.Cond.code ({ cls := "ChangePlaces", name := "likesNow", desc := "()[I" } : Jvm.MethodName) prog_1_method_48_code (4 : Nat) (Option.some (Jvm.ClassFile.FieldType.array Jvm.ClassFile.FieldType.int))) ∈ qx_tbl := qx_t5 45 rfl rfl
set_option maxRecDepth 100000 in
theorem t_1006 : (Jvm.Cond.methodLink "ChangePlaces" (287 : Nat) ({ cls := "ChangePlaces$Most", name := "settleOnce", desc := "(I[I)V" } : Jvm.MethodName)) ∈ qx_tbl := qx_t5 46 rfl rfl
set_option maxRecDepth 100000 in
theorem t_1007 : (Jvm.Cond.instanceMethod ({ cls := "ChangePlaces$Most", name := "settleOnce", desc := "(I[I)V" } : Jvm.MethodName)) ∈ qx_tbl := qx_t5 47 rfl rfl
set_option maxRecDepth 100000 in
theorem t_1008 : (Jvm.Cond.selects "ChangePlaces$Most" ({ cls := "ChangePlaces$Most", name := "settleOnce", desc := "(I[I)V" } : Jvm.MethodName) ({ cls := "ChangePlaces$Most", name := "settleOnce", desc := "(I[I)V" } : Jvm.MethodName)) ∈ qx_tbl := qx_t5 48 rfl rfl
set_option maxRecDepth 100000 in
theorem t_1009 : (Jvm.Cond.code ({ cls := "ChangePlaces$Most", name := "settleOnce", desc := "(I[I)V" } : Jvm.MethodName) prog_5_method_2_code (3 : Nat) (Option.none : Option Jvm.ClassFile.FieldType)) ∈ qx_tbl := qx_t5 49 rfl rfl
set_option maxRecDepth 100000 in
theorem t_1010 : (Jvm.Cond.methodLink "ChangePlaces$Most" (68 : Nat) ({ cls := "ChangePlaces$Most", name := "settle", desc := "([II)V" } : Jvm.MethodName)) ∈ qx_tbl := qx_t5 50 rfl rfl
set_option maxRecDepth 100000 in
theorem t_1011 : (Jvm.Cond.instanceMethod ({ cls := "ChangePlaces$Most", name := "settle", desc := "([II)V" } : Jvm.MethodName)) ∈ qx_tbl := qx_t5 51 rfl rfl
set_option maxRecDepth 100000 in
theorem t_1012 : (Jvm.Cond.selects "ChangePlaces$Most" ({ cls := "ChangePlaces$Most", name := "settle", desc := "([II)V" } : Jvm.MethodName) ({ cls := "ChangePlaces$Most", name := "settle", desc := "([II)V" } : Jvm.MethodName)) ∈ qx_tbl := qx_t5 52 rfl rfl
set_option maxRecDepth 100000 in
theorem t_1013 : (Jvm.Cond.code ({ cls := "ChangePlaces$Most", name := "settle", desc := "([II)V" } : Jvm.MethodName) prog_5_method_5_code (4 : Nat) (Option.none : Option Jvm.ClassFile.FieldType)) ∈ qx_tbl := qx_t5 53 rfl rfl
set_option maxRecDepth 100000 in
theorem t_1014 : (Jvm.Cond.methodLink "ChangePlaces$Most" (83 : Nat) ({ cls := "java/lang/Math", name := "min", desc := "(II)I" } : Jvm.MethodName)) ∈ qx_tbl := qx_t5 54 rfl rfl
set_option maxRecDepth 100000 in
theorem t_1015 : (Jvm.Cond.methodLink "ChangePlaces$Most" (89 : Nat) ({ cls := "java/lang/Math", name := "max", desc := "(II)I" } : Jvm.MethodName)) ∈ qx_tbl := qx_t5 55 rfl rfl
set_option maxRecDepth 100000 in
theorem t_1016 : (Jvm.Cond.methodLink "ChangePlaces$Most" (92 : Nat) ({ cls := "ChangePlaces$Most", name := "countGains", desc := "([I)V" } : Jvm.MethodName)) ∈ qx_tbl := qx_t5 56 rfl rfl
set_option maxRecDepth 100000 in
theorem t_1018 : (Jvm.Cond.instanceMethod ({ cls := "ChangePlaces$Most", name := "countGains", desc := "([I)V" } : Jvm.MethodName)) ∈ qx_tbl := qx_t5 58 rfl rfl
set_option maxRecDepth 100000 in
theorem t_1019 : (Jvm.Cond.code ({ cls := "ChangePlaces$Most", name := "countGains", desc := "([I)V" } : Jvm.MethodName) prog_5_method_6_code (6 : Nat) (Option.none : Option Jvm.ClassFile.FieldType)) ∈ qx_tbl := qx_t5 59 rfl rfl
set_option maxRecDepth 100000 in
theorem t_1020 : (Jvm.Cond.methodLink "ChangePlaces$Most" (96 : Nat) ({ cls := "ChangePlaces$Most", name := "findUnbarred", desc := "(I)V" } : Jvm.MethodName)) ∈ qx_tbl := qx_t5 60 rfl rfl
set_option maxRecDepth 100000 in
theorem t_1022 : (Jvm.Cond.instanceMethod ({ cls := "ChangePlaces$Most", name := "findUnbarred", desc := "(I)V" } : Jvm.MethodName)) ∈ qx_tbl := qx_t5 62 rfl rfl
set_option maxRecDepth 100000 in
theorem t_1023 : (Jvm.Cond.code ({ cls := "ChangePlaces$Most", name := "findUnbarred", desc := "(I)V" } : Jvm.MethodName) prog_5_method_7_code (8 : Nat) (Option.none : Option Jvm.ClassFile.FieldType)) ∈ qx_tbl := qx_t5 63 rfl rfl
set_option maxRecDepth 100000 in
theorem t_1024 : (Jvm.Cond.methodLink "ChangePlaces$Most" (122 : Nat) ({ cls := "ChangePlaces$Laws", name := "isBarred", desc := "(IIIII)Z" } : Jvm.MethodName)) ∈ qx_tbl := qx_t5 64 rfl rfl
set_option maxRecDepth 100000 in
theorem t_1025 : (Jvm.Cond.methodLink "ChangePlaces$Most" (100 : Nat) ({ cls := "ChangePlaces$Most", name := "findOpen", desc := "(I)V" } : Jvm.MethodName)) ∈ qx_tbl := qx_t5 65 rfl rfl
set_option maxRecDepth 100000 in
theorem t_1027 : (Jvm.Cond.instanceMethod ({ cls := "ChangePlaces$Most", name := "findOpen", desc := "(I)V" } : Jvm.MethodName)) ∈ qx_tbl := qx_t5 67 rfl rfl
set_option maxRecDepth 100000 in
theorem t_1028 : (Jvm.Cond.code ({ cls := "ChangePlaces$Most", name := "findOpen", desc := "(I)V" } : Jvm.MethodName) prog_5_method_8_code (6 : Nat) (Option.none : Option Jvm.ClassFile.FieldType)) ∈ qx_tbl := qx_t5 68 rfl rfl
set_option maxRecDepth 100000 in
theorem t_1029 : (Jvm.Cond.methodLink "ChangePlaces$Most" (126 : Nat) ({ cls := "ChangePlaces$Country", name := "onBench", desc := "(I)Z" } : Jvm.MethodName)) ∈ qx_tbl := qx_t5 69 rfl rfl
set_option maxRecDepth 100000 in
theorem t_1030 : (Jvm.Cond.methodLink "ChangePlaces$Most" (103 : Nat) ({ cls := "ChangePlaces$Most", name := "findRings", desc := "()V" } : Jvm.MethodName)) ∈ qx_tbl := qx_t5 70 rfl rfl
set_option maxRecDepth 100000 in
theorem t_1032 : (Jvm.Cond.instanceMethod ({ cls := "ChangePlaces$Most", name := "findRings", desc := "()V" } : Jvm.MethodName)) ∈ qx_tbl := qx_t5 72 rfl rfl
set_option maxRecDepth 100000 in
theorem t_1033 : (Jvm.Cond.code ({ cls := "ChangePlaces$Most", name := "findRings", desc := "()V" } : Jvm.MethodName) prog_5_method_10_code (3 : Nat) (Option.none : Option Jvm.ClassFile.FieldType)) ∈ qx_tbl := qx_t5 73 rfl rfl
set_option maxRecDepth 100000 in
theorem t_1034 : (Jvm.Cond.methodLink "ChangePlaces$Most" (130 : Nat) ({ cls := "ChangePlaces$Most", name := "extend", desc := "(IIII)V" } : Jvm.MethodName)) ∈ qx_tbl := qx_t5 74 rfl rfl
set_option maxRecDepth 100000 in
theorem t_1036 : (Jvm.Cond.instanceMethod ({ cls := "ChangePlaces$Most", name := "extend", desc := "(IIII)V" } : Jvm.MethodName)) ∈ qx_tbl := qx_t5 76 rfl rfl
set_option maxRecDepth 100000 in
theorem t_1037 : (Jvm.Cond.code ({ cls := "ChangePlaces$Most", name := "extend", desc := "(IIII)V" } : Jvm.MethodName) prog_5_method_11_code (7 : Nat) (Option.none : Option Jvm.ClassFile.FieldType)) ∈ qx_tbl := qx_t5 77 rfl rfl
set_option maxRecDepth 100000 in
theorem t_1038 : (Jvm.Cond.methodLink "ChangePlaces$Most" (134 : Nat) ({ cls := "ChangePlaces$Most", name := "isOpen", desc := "(III)Z" } : Jvm.MethodName)) ∈ qx_tbl := qx_t5 78 rfl rfl
set_option maxRecDepth 100000 in
theorem t_1040 : (Jvm.Cond.instanceMethod ({ cls := "ChangePlaces$Most", name := "isOpen", desc := "(III)Z" } : Jvm.MethodName)) ∈ qx_tbl := qx_t5 80 rfl rfl
set_option maxRecDepth 100000 in
theorem t_1041 : (Jvm.Cond.code ({ cls := "ChangePlaces$Most", name := "isOpen", desc := "(III)Z" } : Jvm.MethodName) prog_5_method_9_code (4 : Nat) (Option.some Jvm.ClassFile.FieldType.boolean)) ∈ qx_tbl := qx_t5 81 rfl rfl
set_option maxRecDepth 100000 in
theorem t_1042 : (Jvm.Cond.methodLink "ChangePlaces$Most" (138 : Nat) ({ cls := "ChangePlaces$Most", name := "note", desc := "(II)V" } : Jvm.MethodName)) ∈ qx_tbl := qx_t5 82 rfl rfl
set_option maxRecDepth 100000 in
theorem t_1044 : (Jvm.Cond.instanceMethod ({ cls := "ChangePlaces$Most", name := "note", desc := "(II)V" } : Jvm.MethodName)) ∈ qx_tbl := qx_t5 84 rfl rfl
set_option maxRecDepth 100000 in
theorem t_1045 : (Jvm.Cond.code ({ cls := "ChangePlaces$Most", name := "note", desc := "(II)V" } : Jvm.MethodName) prog_5_method_12_code (3 : Nat) (Option.none : Option Jvm.ClassFile.FieldType)) ∈ qx_tbl := qx_t5 85 rfl rfl
set_option maxRecDepth 100000 in
theorem t_1046 : (Jvm.Cond.methodLink "ChangePlaces$Most" (107 : Nat) ({ cls := "ChangePlaces$Most", name := "findBest", desc := "()V" } : Jvm.MethodName)) ∈ qx_tbl := qx_t5 86 rfl rfl
set_option maxRecDepth 100000 in
theorem t_1048 : (Jvm.Cond.instanceMethod ({ cls := "ChangePlaces$Most", name := "findBest", desc := "()V" } : Jvm.MethodName)) ∈ qx_tbl := qx_t5 88 rfl rfl
set_option maxRecDepth 100000 in
theorem t_1049 : (Jvm.Cond.code ({ cls := "ChangePlaces$Most", name := "findBest", desc := "()V" } : Jvm.MethodName) prog_5_method_13_code (6 : Nat) (Option.none : Option Jvm.ClassFile.FieldType)) ∈ qx_tbl := qx_t5 89 rfl rfl
set_option maxRecDepth 100000 in
theorem t_1050 : (Jvm.Cond.methodLink "ChangePlaces$Most" (142 : Nat) ({ cls := "ChangePlaces$Most", name := "bestOf", desc := "(II)I" } : Jvm.MethodName)) ∈ qx_tbl := qx_t5 90 rfl rfl
set_option maxRecDepth 100000 in
theorem t_1052 : (Jvm.Cond.instanceMethod ({ cls := "ChangePlaces$Most", name := "bestOf", desc := "(II)I" } : Jvm.MethodName)) ∈ qx_tbl := qx_t5 92 rfl rfl
set_option maxRecDepth 100000 in
theorem t_1053 : (Jvm.Cond.code ({ cls := "ChangePlaces$Most", name := "bestOf", desc := "(II)I" } : Jvm.MethodName) prog_5_method_14_code (6 : Nat) (Option.some Jvm.ClassFile.FieldType.int)) ∈ qx_tbl := qx_t5 93 rfl rfl
set_option maxRecDepth 100000 in
theorem t_1054 : (Jvm.Cond.methodLink "ChangePlaces$Most" (110 : Nat) ({ cls := "ChangePlaces$Most", name := "choose", desc := "()V" } : Jvm.MethodName)) ∈ qx_tbl := qx_t5 94 rfl rfl
set_option maxRecDepth 100000 in
theorem t_1056 : (Jvm.Cond.instanceMethod ({ cls := "ChangePlaces$Most", name := "choose", desc := "()V" } : Jvm.MethodName)) ∈ qx_tbl := qx_t5 96 rfl rfl
set_option maxRecDepth 100000 in
theorem t_1057 : (Jvm.Cond.code ({ cls := "ChangePlaces$Most", name := "choose", desc := "()V" } : Jvm.MethodName) prog_5_method_15_code (4 : Nat) (Option.none : Option Jvm.ClassFile.FieldType)) ∈ qx_tbl := qx_t5 97 rfl rfl
set_option maxRecDepth 100000 in
theorem t_1058 : (Jvm.Cond.methodLink "ChangePlaces$Most" (145 : Nat) ({ cls := "ChangePlaces$Most", name := "firstBest", desc := "(III)I" } : Jvm.MethodName)) ∈ qx_tbl := qx_t5 98 rfl rfl
set_option maxRecDepth 100000 in
theorem t_1060 : (Jvm.Cond.instanceMethod ({ cls := "ChangePlaces$Most", name := "firstBest", desc := "(III)I" } : Jvm.MethodName)) ∈ qx_tbl := qx_t5 100 rfl rfl
set_option maxRecDepth 100000 in
theorem t_1061 : (Jvm.Cond.code ({ cls := "ChangePlaces$Most", name := "firstBest", desc := "(III)I" } : Jvm.MethodName) prog_5_method_16_code (7 : Nat) (Option.some Jvm.ClassFile.FieldType.int)) ∈ qx_tbl := qx_t5 101 rfl rfl
set_option maxRecDepth 100000 in
theorem t_1062 : (Jvm.Cond.methodLink "ChangePlaces$Most" (149 : Nat) ({ cls := "ChangePlaces$Most", name := "rowScore", desc := "(II)I" } : Jvm.MethodName)) ∈ qx_tbl := qx_t5 102 rfl rfl
set_option maxRecDepth 100000 in
theorem t_1064 : (Jvm.Cond.instanceMethod ({ cls := "ChangePlaces$Most", name := "rowScore", desc := "(II)I" } : Jvm.MethodName)) ∈ qx_tbl := qx_t5 104 rfl rfl
set_option maxRecDepth 100000 in
theorem t_1065 : (Jvm.Cond.code ({ cls := "ChangePlaces$Most", name := "rowScore", desc := "(II)I" } : Jvm.MethodName) prog_5_method_17_code (6 : Nat) (Option.some Jvm.ClassFile.FieldType.int)) ∈ qx_tbl := qx_t5 105 rfl rfl
set_option maxRecDepth 100000 in
theorem t_1066 : (Jvm.Cond.methodLink "ChangePlaces$Most" (152 : Nat) ({ cls := "ChangePlaces$Most", name := "takeRow", desc := "(I)V" } : Jvm.MethodName)) ∈ qx_tbl := qx_t5 106 rfl rfl
set_option maxRecDepth 100000 in
theorem t_1068 : (Jvm.Cond.instanceMethod ({ cls := "ChangePlaces$Most", name := "takeRow", desc := "(I)V" } : Jvm.MethodName)) ∈ qx_tbl := qx_t5 108 rfl rfl
set_option maxRecDepth 100000 in
theorem t_1069 : (Jvm.Cond.code ({ cls := "ChangePlaces$Most", name := "takeRow", desc := "(I)V" } : Jvm.MethodName) prog_5_method_18_code (3 : Nat) (Option.none : Option Jvm.ClassFile.FieldType)) ∈ qx_tbl := qx_t5 109 rfl rfl
set_option maxRecDepth 100000 in
theorem t_1070 : (Jvm.Cond.methodLink "ChangePlaces" (291 : Nat) ({ cls := "ChangePlaces$Most", name := "gained", desc := "()I" } : Jvm.MethodName)) ∈ qx_tbl := qx_t5 110 rfl rfl
set_option maxRecDepth 100000 in
theorem t_1071 : (Jvm.Cond.instanceMethod ({ cls := "ChangePlaces$Most", name := "gained", desc := "()I" } : Jvm.MethodName)) ∈ qx_tbl := qx_t5 111 rfl rfl
set_option maxRecDepth 100000 in
theorem t_1072 : (Jvm.Cond.selects "ChangePlaces$Most" ({ cls := "ChangePlaces$Most", name := "gained", desc := "()I" } : Jvm.MethodName) ({ cls := "ChangePlaces$Most", name := "gained", desc := "()I" } : Jvm.MethodName)) ∈ qx_tbl := qx_t5 112 rfl rfl
set_option maxRecDepth 100000 in
theorem t_1073 : (Jvm.Cond.code ({ cls := "ChangePlaces$Most", name := "gained", desc := "()I" } : Jvm.MethodName) prog_5_method_3_code (3 : Nat) (Option.some Jvm.ClassFile.FieldType.int)) ∈ qx_tbl := qx_t5 113 rfl rfl
set_option maxRecDepth 100000 in
theorem t_1074 : (Jvm.Cond.methodLink "ChangePlaces" (294 : Nat) ({ cls := "ChangePlaces$Most", name := "changing", desc := "()I" } : Jvm.MethodName)) ∈ qx_tbl := qx_t5 114 rfl rfl
set_option maxRecDepth 100000 in
theorem t_1075 : (Jvm.Cond.instanceMethod ({ cls := "ChangePlaces$Most", name := "changing", desc := "()I" } : Jvm.MethodName)) ∈ qx_tbl := qx_t5 115 rfl rfl
set_option maxRecDepth 100000 in
theorem t_1076 : (Jvm.Cond.selects "ChangePlaces$Most" ({ cls := "ChangePlaces$Most", name := "changing", desc := "()I" } : Jvm.MethodName) ({ cls := "ChangePlaces$Most", name := "changing", desc := "()I" } : Jvm.MethodName)) ∈ qx_tbl := qx_t5 116 rfl rfl
set_option maxRecDepth 100000 in
theorem t_1077 : (Jvm.Cond.code ({ cls := "ChangePlaces$Most", name := "changing", desc := "()I" } : Jvm.MethodName) prog_5_method_4_code (3 : Nat) (Option.some Jvm.ClassFile.FieldType.int)) ∈ qx_tbl := qx_t5 117 rfl rfl
set_option maxRecDepth 100000 in
theorem t_1078 : (Jvm.Cond.methodLink "ChangePlacesLaw" (118 : Nat) ({ cls := "ChangePlaces", name := "mostOf", desc := "(II)I" } : Jvm.MethodName)) ∈ qx_tbl := qx_t5 118 rfl rfl
set_option maxRecDepth 100000 in
theorem t_1079 : (Jvm.Cond.instanceMethod ({ cls := "ChangePlaces", name := "mostOf", desc := "(II)I" } : Jvm.MethodName)) ∈ qx_tbl := qx_t5 119 rfl rfl
set_option maxRecDepth 100000 in
theorem t_1080 : (Jvm.Cond.selects "ChangePlaces" ({ cls := "ChangePlaces", name := "mostOf", desc := "(II)I" } : Jvm.MethodName) ({ cls := "ChangePlaces", name := "mostOf", desc := "(II)I" } : Jvm.MethodName)) ∈ qx_tbl := qx_t5 120 rfl rfl
set_option maxRecDepth 100000 in
theorem t_1081 : (Jvm.Cond.code ({ cls := "ChangePlaces", name := "mostOf", desc := "(II)I" } : Jvm.MethodName) prog_1_method_28_code (3 : Nat) (Option.some Jvm.ClassFile.FieldType.int)) ∈ qx_tbl := qx_t5 121 rfl rfl
set_option maxRecDepth 100000 in
theorem t_1082 : (Jvm.Cond.methodLink "ChangePlacesLaw" (122 : Nat) ({ cls := "ChangePlaces", name := "core", desc := "(I)I" } : Jvm.MethodName)) ∈ qx_tbl := qx_t5 122 rfl rfl
set_option maxRecDepth 100000 in
theorem t_1083 : (Jvm.Cond.instanceMethod ({ cls := "ChangePlaces", name := "core", desc := "(I)I" } : Jvm.MethodName)) ∈ qx_tbl := qx_t5 123 rfl rfl
set_option maxRecDepth 100000 in
theorem t_1084 : (Jvm.Cond.selects "ChangePlaces" ({ cls := "ChangePlaces", name := "core", desc := "(I)I" } : Jvm.MethodName) ({ cls := "ChangePlaces", name := "core", desc := "(I)I" } : Jvm.MethodName)) ∈ qx_tbl := qx_t5 124 rfl rfl
set_option maxRecDepth 100000 in
theorem t_1085 : (Jvm.Cond.code ({ cls := "ChangePlaces", name := "core", desc := "(I)I" } : Jvm.MethodName) prog_1_method_29_code (2 : Nat) (Option.some Jvm.ClassFile.FieldType.int)) ∈ qx_tbl := qx_t5 125 rfl rfl
set_option maxRecDepth 100000 in
theorem t_1086 : (Jvm.Cond.methodLink "ChangePlaces" (300 : Nat) ({ cls := "ChangePlaces$Core", name := "settle", desc := "([II)V" } : Jvm.MethodName)) ∈ qx_tbl := qx_t5 126 rfl rfl
set_option maxRecDepth 100000 in
theorem t_1087 : (Jvm.Cond.instanceMethod ({ cls := "ChangePlaces$Core", name := "settle", desc := "([II)V" } : Jvm.MethodName)) ∈ qx_tbl := qx_t5 127 rfl rfl
set_option maxRecDepth 100000 in
theorem t_1088 : (Jvm.Cond.selects "ChangePlaces$Core" ({ cls := "ChangePlaces$Core", name := "settle", desc := "([II)V" } : Jvm.MethodName) ({ cls := "ChangePlaces$Core", name := "settle", desc := "([II)V" } : Jvm.MethodName)) ∈ qx_tbl := qx_t5 128 rfl rfl
set_option maxRecDepth 100000 in
theorem t_1089 : (Jvm.Cond.code ({ cls := "ChangePlaces$Core", name := "settle", desc := "([II)V" } : Jvm.MethodName) prog_2_method_2_code (8 : Nat) (Option.none : Option Jvm.ClassFile.FieldType)) ∈ qx_tbl := qx_t5 129 rfl rfl
set_option maxRecDepth 100000 in
theorem t_1090 : (Jvm.Cond.methodLink "ChangePlaces$Core" (31 : Nat) ({ cls := "ChangePlaces$Core", name := "pointsAt", desc := "(II[I)I" } : Jvm.MethodName)) ∈ qx_tbl := qx_t5 130 rfl rfl
set_option maxRecDepth 100000 in
theorem t_1092 : (Jvm.Cond.instanceMethod ({ cls := "ChangePlaces$Core", name := "pointsAt", desc := "(II[I)I" } : Jvm.MethodName)) ∈ qx_tbl := qx_t5 132 rfl rfl
set_option maxRecDepth 100000 in
theorem t_1093 : (Jvm.Cond.code ({ cls := "ChangePlaces$Core", name := "pointsAt", desc := "(II[I)I" } : Jvm.MethodName) prog_2_method_3_code (9 : Nat) (Option.some Jvm.ClassFile.FieldType.int)) ∈ qx_tbl := qx_t5 133 rfl rfl
set_option maxRecDepth 100000 in
theorem t_1094 : (Jvm.Cond.methodLink "ChangePlaces$Core" (35 : Nat) ({ cls := "ChangePlaces$Core", name := "comesBack", desc := "(I)Z" } : Jvm.MethodName)) ∈ qx_tbl := qx_t5 134 rfl rfl
set_option maxRecDepth 100000 in
theorem t_1096 : (Jvm.Cond.instanceMethod ({ cls := "ChangePlaces$Core", name := "comesBack", desc := "(I)Z" } : Jvm.MethodName)) ∈ qx_tbl := qx_t5 136 rfl rfl
set_option maxRecDepth 100000 in
theorem t_1097 : (Jvm.Cond.code ({ cls := "ChangePlaces$Core", name := "comesBack", desc := "(I)Z" } : Jvm.MethodName) prog_2_method_4_code (4 : Nat) (Option.some Jvm.ClassFile.FieldType.boolean)) ∈ qx_tbl := qx_t5 137 rfl rfl
set_option maxRecDepth 100000 in
theorem t_1098 : (Jvm.Cond.methodLink "ChangePlacesLaw" (126 : Nat) ({ cls := "ChangePlaces", name := "blocks", desc := "(I)I" } : Jvm.MethodName)) ∈ qx_tbl := qx_t5 138 rfl rfl
set_option maxRecDepth 100000 in
theorem t_1099 : (Jvm.Cond.instanceMethod ({ cls := "ChangePlaces", name := "blocks", desc := "(I)I" } : Jvm.MethodName)) ∈ qx_tbl := qx_t5 139 rfl rfl
set_option maxRecDepth 100000 in
theorem t_1100 : (Jvm.Cond.selects "ChangePlaces" ({ cls := "ChangePlaces", name := "blocks", desc := "(I)I" } : Jvm.MethodName) ({ cls := "ChangePlaces", name := "blocks", desc := "(I)I" } : Jvm.MethodName)) ∈ qx_tbl := qx_t5 140 rfl rfl
set_option maxRecDepth 100000 in
theorem t_1101 : (Jvm.Cond.code ({ cls := "ChangePlaces", name := "blocks", desc := "(I)I" } : Jvm.MethodName) prog_1_method_30_code (2 : Nat) (Option.some Jvm.ClassFile.FieldType.int)) ∈ qx_tbl := qx_t5 141 rfl rfl
set_option maxRecDepth 100000 in
theorem t_1102 : (Jvm.Cond.methodLink "ChangePlaces" (305 : Nat) ({ cls := "ChangePlaces$Core", name := "blockingTwos", desc := "([I)I" } : Jvm.MethodName)) ∈ qx_tbl := qx_t5 142 rfl rfl
set_option maxRecDepth 100000 in
theorem t_1103 : (Jvm.Cond.sameMethod "ChangePlaces$Core" "ChangePlaces$Way" "blockingTwos" "([I)I") ∈ qx_tbl := qx_t5 143 rfl rfl
set_option maxRecDepth 100000 in
theorem t_1105 : (Jvm.Cond.selects "ChangePlaces$Core" ({ cls := "ChangePlaces$Core", name := "blockingTwos", desc := "([I)I" } : Jvm.MethodName) ({ cls := "ChangePlaces$Way", name := "blockingTwos", desc := "([I)I" } : Jvm.MethodName)) ∈ qx_tbl := qx_t5 145 rfl rfl
set_option maxRecDepth 100000 in
theorem t_1106 : (Jvm.Cond.instanceMethod ({ cls := "ChangePlaces$Way", name := "blockingTwos", desc := "([I)I" } : Jvm.MethodName)) ∈ qx_tbl := qx_t5 146 rfl rfl
set_option maxRecDepth 100000 in
theorem t_1107 : (Jvm.Cond.code ({ cls := "ChangePlaces$Way", name := "blockingTwos", desc := "([I)I" } : Jvm.MethodName) prog_12_method_5_code (5 : Nat) (Option.some Jvm.ClassFile.FieldType.int)) ∈ qx_tbl := qx_t5 147 rfl rfl
set_option maxRecDepth 100000 in
theorem t_1108 : (Jvm.Cond.methodLink "ChangePlaces$Way" (53 : Nat) ({ cls := "ChangePlaces$Way", name := "wouldLike", desc := "([III)Z" } : Jvm.MethodName)) ∈ qx_tbl := qx_t5 148 rfl rfl
set_option maxRecDepth 100000 in
theorem t_1110 : (Jvm.Cond.instanceMethod ({ cls := "ChangePlaces$Way", name := "wouldLike", desc := "([III)Z" } : Jvm.MethodName)) ∈ qx_tbl := qx_t5 150 rfl rfl
set_option maxRecDepth 100000 in
theorem t_1111 : (Jvm.Cond.code ({ cls := "ChangePlaces$Way", name := "wouldLike", desc := "([III)Z" } : Jvm.MethodName) prog_12_method_4_code (5 : Nat) (Option.some Jvm.ClassFile.FieldType.boolean)) ∈ qx_tbl := qx_t5 151 rfl rfl
set_option maxRecDepth 100000 in
theorem t_1112 : (Jvm.Cond.methodLink "ChangePlaces$Way" (37 : Nat) ({ cls := "ChangePlaces$Way", name := "comesTo", desc := "(I)I" } : Jvm.MethodName)) ∈ qx_tbl := qx_t5 152 rfl rfl
set_option maxRecDepth 100000 in
theorem t_1113 : (Jvm.Cond.instanceMethod ({ cls := "ChangePlaces$Way", name := "comesTo", desc := "(I)I" } : Jvm.MethodName)) ∈ qx_tbl := qx_t5 153 rfl rfl
set_option maxRecDepth 100000 in
theorem t_1114 : (Jvm.Cond.sameMethod "ChangePlaces$Way" "ChangePlaces$Way" "comesTo" "(I)I") ∈ qx_tbl := qx_t5 154 rfl rfl
set_option maxRecDepth 100000 in
theorem t_1115 : (Jvm.Cond.selects "ChangePlaces$Core" ({ cls := "ChangePlaces$Way", name := "comesTo", desc := "(I)I" } : Jvm.MethodName) ({ cls := "ChangePlaces$Way", name := "comesTo", desc := "(I)I" } : Jvm.MethodName)) ∈ qx_tbl := qx_t5 155 rfl rfl
set_option maxRecDepth 100000 in
theorem t_1116 : (Jvm.Cond.selects "ChangePlaces$Most" ({ cls := "ChangePlaces$Way", name := "comesTo", desc := "(I)I" } : Jvm.MethodName) ({ cls := "ChangePlaces$Way", name := "comesTo", desc := "(I)I" } : Jvm.MethodName)) ∈ qx_tbl := qx_t5 156 rfl rfl
set_option maxRecDepth 100000 in
theorem t_1117 : (Jvm.Cond.code ({ cls := "ChangePlaces$Way", name := "comesTo", desc := "(I)I" } : Jvm.MethodName) prog_12_method_3_code (2 : Nat) (Option.some Jvm.ClassFile.FieldType.int)) ∈ qx_tbl := qx_t5 157 rfl rfl
set_option maxRecDepth 100000 in
theorem t_1118 : (Jvm.Cond.methodLink "ChangePlaces" (309 : Nat) ({ cls := "ChangePlaces$Most", name := "blockingTwos", desc := "([I)I" } : Jvm.MethodName)) ∈ qx_tbl := qx_t5 158 rfl rfl
set_option maxRecDepth 100000 in
theorem t_1119 : (Jvm.Cond.sameMethod "ChangePlaces$Most" "ChangePlaces$Way" "blockingTwos" "([I)I") ∈ qx_tbl := qx_t5 159 rfl rfl
set_option maxRecDepth 100000 in
theorem t_1120 : (Jvm.Cond.selects "ChangePlaces$Most" ({ cls := "ChangePlaces$Most", name := "blockingTwos", desc := "([I)I" } : Jvm.MethodName) ({ cls := "ChangePlaces$Way", name := "blockingTwos", desc := "([I)I" } : Jvm.MethodName)) ∈ qx_tbl := qx_t5 160 rfl rfl
set_option maxRecDepth 100000 in
theorem t_1121 : (Jvm.Cond.methodLink "ChangePlacesLaw" (130 : Nat) ({ cls := "ChangePlaces", name := "journey", desc := "(II)I" } : Jvm.MethodName)) ∈ qx_tbl := qx_t5 161 rfl rfl
set_option maxRecDepth 100000 in
theorem t_1122 : (Jvm.Cond.instanceMethod ({ cls := "ChangePlaces", name := "journey", desc := "(II)I" } : Jvm.MethodName)) ∈ qx_tbl := qx_t5 162 rfl rfl
set_option maxRecDepth 100000 in
theorem t_1123 : (Jvm.Cond.selects "ChangePlaces" ({ cls := "ChangePlaces", name := "journey", desc := "(II)I" } : Jvm.MethodName) ({ cls := "ChangePlaces", name := "journey", desc := "(II)I" } : Jvm.MethodName)) ∈ qx_tbl := qx_t5 163 rfl rfl
set_option maxRecDepth 100000 in
theorem t_1124 : (Jvm.Cond.code ({ cls := "ChangePlaces", name := "journey", desc := "(II)I" } : Jvm.MethodName) prog_1_method_31_code (5 : Nat) (Option.some Jvm.ClassFile.FieldType.int)) ∈ qx_tbl := qx_t5 164 rfl rfl
set_option maxRecDepth 100000 in
theorem t_1125 : (Jvm.Cond.methodLink "ChangePlaces" (310 : Nat) ({ cls := "ChangePlaces", name := "searchFromNow", desc := "()LChangePlaces$Search;" } : Jvm.MethodName)) ∈ qx_tbl := qx_t5 165 rfl rfl
set_option maxRecDepth 100000 in
theorem t_1127 : (Jvm.Cond.instanceMethod ({ cls := "ChangePlaces", name := "searchFromNow", desc := "()LChangePlaces$Search;" } : Jvm.MethodName)) ∈ qx_tbl := qx_t5 167 rfl rfl
set_option maxRecDepth 100000 in
theorem t_1128 : (Jvm.Cond.code ({ cls := "ChangePlaces", name := "searchFromNow", desc := "()LChangePlaces$Search;" } : Jvm.MethodName) prog_1_method_55_code (1 : Nat) (Option.some (Jvm.ClassFile.FieldType.object "ChangePlaces$Search"))) ∈ qx_tbl := qx_t5 168 rfl rfl
set_option maxRecDepth 100000 in
theorem t_1129 : (Jvm.Cond.classLink "ChangePlaces" (319 : Nat) "ChangePlaces$Search") ∈ qx_tbl := qx_t5 169 rfl rfl
set_option maxRecDepth 100000 in
theorem t_1130 : (Jvm.Cond.instantiable "ChangePlaces$Search" (10 : Nat)) ∈ qx_tbl := qx_t5 170 rfl rfl
set_option maxRecDepth 100000 in
theorem t_1131 : (Jvm.Cond.methodLink "ChangePlaces" (429 : Nat) ({ cls := "ChangePlaces$Search", name := "<init>", desc := "(LChangePlaces$Laws;)V" } : Jvm.MethodName)) ∈ qx_tbl := qx_t5 171 rfl rfl
set_option maxRecDepth 100000 in
theorem t_1132 : (Jvm.Cond.instanceMethod ({ cls := "ChangePlaces$Search", name := "<init>", desc := "(LChangePlaces$Laws;)V" } : Jvm.MethodName)) ∈ qx_tbl := qx_t5 172 rfl rfl
set_option maxRecDepth 100000 in
theorem t_1133 : (Jvm.Cond.code ({ cls := "ChangePlaces$Search", name := "<init>", desc := "(LChangePlaces$Laws;)V" } : Jvm.MethodName) prog_8_method_1_code (2 : Nat) (Option.none : Option Jvm.ClassFile.FieldType)) ∈ qx_tbl := qx_t5 173 rfl rfl
set_option maxRecDepth 100000 in
theorem t_1134 : (Jvm.Cond.methodLink "ChangePlaces$Search" (3 : Nat) ({ cls := "java/lang/Object", name := "<init>", desc := "()V" } : Jvm.MethodName)) ∈ qx_tbl := qx_t5 174 rfl rfl
set_option maxRecDepth 100000 in
theorem t_1135 : (Jvm.Cond.fieldLink "ChangePlaces$Search" (40 : Nat) "ChangePlaces$Search" "laws" "LChangePlaces$Laws;") ∈ qx_tbl := qx_t5 175 rfl rfl
set_option maxRecDepth 100000 in
theorem t_1136 : (Jvm.Cond.fieldLink "ChangePlaces$Search" (11 : Nat) "ChangePlaces$Search" "situation" "[I") ∈ qx_tbl := qx_t5 176 rfl rfl
set_option maxRecDepth 100000 in
theorem t_1137 : (Jvm.Cond.fieldLink "ChangePlaces$Search" (15 : Nat) "ChangePlaces$Search" "depth" "[I") ∈ qx_tbl := qx_t5 177 rfl rfl
set_option maxRecDepth 100000 in
theorem t_1139 : (Jvm.Cond.fieldLink "ChangePlaces$Search" (18 : Nat) "ChangePlaces$Search" "cameFrom" "[I") ∈ qx_tbl := qx_t5 179 rfl rfl
set_option maxRecDepth 100000 in
theorem t_1140 : (Jvm.Cond.fieldLink "ChangePlaces$Search" (21 : Nat) "ChangePlaces$Search" "cameBy" "[I") ∈ qx_tbl := qx_t5 180 rfl rfl
set_option maxRecDepth 100000 in
theorem t_1141 : (Jvm.Cond.fieldLink "ChangePlaces$Search" (24 : Nat) "ChangePlaces$Search" "ways" "[I") ∈ qx_tbl := qx_t5 181 rfl rfl
set_option maxRecDepth 100000 in
theorem t_1143 : (Jvm.Cond.fieldLink "ChangePlaces$Search" (27 : Nat) "ChangePlaces$Search" "slots" "[I") ∈ qx_tbl := qx_t5 183 rfl rfl
set_option maxRecDepth 100000 in
theorem t_1144 : (Jvm.Cond.fieldLink "ChangePlaces$Search" (30 : Nat) "ChangePlaces$Search" "size" "I") ∈ qx_tbl := qx_t5 184 rfl rfl
set_option maxRecDepth 100000 in
theorem t_1146 : (Jvm.Cond.fieldLink "ChangePlaces$Search" (34 : Nat) "ChangePlaces$Search" "grown" "I") ∈ qx_tbl := qx_t5 186 rfl rfl
set_option maxRecDepth 100000 in
theorem t_1147 : (Jvm.Cond.fieldLink "ChangePlaces$Search" (37 : Nat) "ChangePlaces$Search" "edition" "I") ∈ qx_tbl := qx_t5 187 rfl rfl
set_option maxRecDepth 100000 in
theorem t_1170 : (Jvm.Cond.methodLink "ChangePlaces" (433 : Nat) ({ cls := "ChangePlaces$Search", name := "begin", desc := "([I)V" } : Jvm.MethodName)) ∈ qx_tbl := qx_t5 210 rfl rfl
set_option maxRecDepth 100000 in
theorem t_1171 : (Jvm.Cond.instanceMethod ({ cls := "ChangePlaces$Search", name := "begin", desc := "([I)V" } : Jvm.MethodName)) ∈ qx_tbl := qx_t5 211 rfl rfl
set_option maxRecDepth 100000 in
theorem t_1172 : (Jvm.Cond.selects "ChangePlaces$Search" ({ cls := "ChangePlaces$Search", name := "begin", desc := "([I)V" } : Jvm.MethodName) ({ cls := "ChangePlaces$Search", name := "begin", desc := "([I)V" } : Jvm.MethodName)) ∈ qx_tbl := qx_t5 212 rfl rfl
set_option maxRecDepth 100000 in
theorem t_1173 : (Jvm.Cond.code ({ cls := "ChangePlaces$Search", name := "begin", desc := "([I)V" } : Jvm.MethodName) prog_8_method_2_code (4 : Nat) (Option.none : Option Jvm.ClassFile.FieldType)) ∈ qx_tbl := qx_t5 213 rfl rfl
set_option maxRecDepth 100000 in
theorem t_1174 : (Jvm.Cond.methodLink "ChangePlaces$Search" (55 : Nat) ({ cls := "java/util/Arrays", name := "fill", desc := "([II)V" } : Jvm.MethodName)) ∈ qx_tbl := qx_t5 214 rfl rfl
set_option maxRecDepth 100000 in
theorem t_1175 : (Jvm.Cond.methodLink "ChangePlaces$Search" (62 : Nat) ({ cls := "ChangePlaces$Search", name := "add", desc := "(III)V" } : Jvm.MethodName)) ∈ qx_tbl := qx_t5 215 rfl rfl
set_option maxRecDepth 100000 in
theorem t_1177 : (Jvm.Cond.instanceMethod ({ cls := "ChangePlaces$Search", name := "add", desc := "(III)V" } : Jvm.MethodName)) ∈ qx_tbl := qx_t5 217 rfl rfl
set_option maxRecDepth 100000 in
theorem t_1178 : (Jvm.Cond.code ({ cls := "ChangePlaces$Search", name := "add", desc := "(III)V" } : Jvm.MethodName) prog_8_method_6_code (6 : Nat) (Option.none : Option Jvm.ClassFile.FieldType)) ∈ qx_tbl := qx_t5 218 rfl rfl
set_option maxRecDepth 100000 in
theorem t_1179 : (Jvm.Cond.methodLink "ChangePlaces$Search" (67 : Nat) ({ cls := "ChangePlaces$Search", name := "slotOf", desc := "(I)I" } : Jvm.MethodName)) ∈ qx_tbl := qx_t5 219 rfl rfl
set_option maxRecDepth 100000 in
theorem t_1181 : (Jvm.Cond.instanceMethod ({ cls := "ChangePlaces$Search", name := "slotOf", desc := "(I)I" } : Jvm.MethodName)) ∈ qx_tbl := qx_t5 221 rfl rfl
set_option maxRecDepth 100000 in
theorem t_1182 : (Jvm.Cond.code ({ cls := "ChangePlaces$Search", name := "slotOf", desc := "(I)I" } : Jvm.MethodName) prog_8_method_5_code (5 : Nat) (Option.some Jvm.ClassFile.FieldType.int)) ∈ qx_tbl := qx_t5 222 rfl rfl
set_option maxRecDepth 100000 in
theorem t_1183 : (Jvm.Cond.constant "ChangePlaces$Search" (66 : Nat) (-1640531535 : Int32)) ∈ qx_tbl := qx_t5 223 rfl rfl
set_option maxRecDepth 100000 in
theorem t_1184 : (Jvm.Cond.methodLink "ChangePlaces$Search" (71 : Nat) ({ cls := "java/lang/Math", name := "min", desc := "(II)I" } : Jvm.MethodName)) ∈ qx_tbl := qx_t5 224 rfl rfl
set_option maxRecDepth 100000 in
theorem t_1185 : (Jvm.Cond.methodLink "ChangePlaces$Search" (77 : Nat) ({ cls := "ChangePlaces$Search", name := "full", desc := "()Z" } : Jvm.MethodName)) ∈ qx_tbl := qx_t5 225 rfl rfl
set_option maxRecDepth 100000 in
theorem t_1186 : (Jvm.Cond.instanceMethod ({ cls := "ChangePlaces$Search", name := "full", desc := "()Z" } : Jvm.MethodName)) ∈ qx_tbl := qx_t5 226 rfl rfl
set_option maxRecDepth 100000 in
theorem t_1187 : (Jvm.Cond.selects "ChangePlaces$Search" ({ cls := "ChangePlaces$Search", name := "full", desc := "()Z" } : Jvm.MethodName) ({ cls := "ChangePlaces$Search", name := "full", desc := "()Z" } : Jvm.MethodName)) ∈ qx_tbl := qx_t5 227 rfl rfl
set_option maxRecDepth 100000 in
theorem t_1188 : (Jvm.Cond.code ({ cls := "ChangePlaces$Search", name := "full", desc := "()Z" } : Jvm.MethodName) prog_8_method_3_code (1 : Nat) (Option.some Jvm.ClassFile.FieldType.boolean)) ∈ qx_tbl := qx_t5 228 rfl rfl
set_option maxRecDepth 100000 in
theorem t_1189 : (Jvm.Cond.methodLink "ChangePlaces" (314 : Nat) ({ cls := "ChangePlaces", name := "goal", desc := "(II)[I" } : Jvm.MethodName)) ∈ qx_tbl := qx_t5 229 rfl rfl
set_option maxRecDepth 100000 in
theorem t_1191 : (Jvm.Cond.instanceMethod ({ cls := "ChangePlaces", name := "goal", desc := "(II)[I" } : Jvm.MethodName)) ∈ qx_tbl := qx_t5 231 rfl rfl
set_option maxRecDepth 100000 in
theorem t_1192 : (Jvm.Cond.code ({ cls := "ChangePlaces", name := "goal", desc := "(II)[I" } : Jvm.MethodName) prog_1_method_54_code (3 : Nat) (Option.some (Jvm.ClassFile.FieldType.array Jvm.ClassFile.FieldType.int))) ∈ qx_tbl := qx_t5 232 rfl rfl
set_option maxRecDepth 100000 in
theorem t_1193 : (Jvm.Cond.methodLink "ChangePlaces" (424 : Nat) ({ cls := "java/util/Arrays", name := "fill", desc := "([II)V" } : Jvm.MethodName)) ∈ qx_tbl := qx_t5 233 rfl rfl
set_option maxRecDepth 100000 in
theorem t_1194 : (Jvm.Cond.methodLink "ChangePlaces" (318 : Nat) ({ cls := "ChangePlaces$Search", name := "firstOf", desc := "([I)I" } : Jvm.MethodName)) ∈ qx_tbl := qx_t5 234 rfl rfl
set_option maxRecDepth 100000 in
theorem t_1195 : (Jvm.Cond.instanceMethod ({ cls := "ChangePlaces$Search", name := "firstOf", desc := "([I)I" } : Jvm.MethodName)) ∈ qx_tbl := qx_t5 235 rfl rfl
set_option maxRecDepth 100000 in
theorem t_1196 : (Jvm.Cond.selects "ChangePlaces$Search" ({ cls := "ChangePlaces$Search", name := "firstOf", desc := "([I)I" } : Jvm.MethodName) ({ cls := "ChangePlaces$Search", name := "firstOf", desc := "([I)I" } : Jvm.MethodName)) ∈ qx_tbl := qx_t5 236 rfl rfl
set_option maxRecDepth 100000 in
theorem t_1197 : (Jvm.Cond.code ({ cls := "ChangePlaces$Search", name := "firstOf", desc := "([I)I" } : Jvm.MethodName) prog_8_method_11_code (4 : Nat) (Option.some Jvm.ClassFile.FieldType.int)) ∈ qx_tbl := qx_t5 237 rfl rfl
set_option maxRecDepth 100000 in
theorem t_1198 : (Jvm.Cond.methodLink "ChangePlaces$Search" (88 : Nat) ({ cls := "ChangePlaces$Search", name := "grow", desc := "()Z" } : Jvm.MethodName)) ∈ qx_tbl := qx_t5 238 rfl rfl
set_option maxRecDepth 100000 in
theorem t_1200 : (Jvm.Cond.instanceMethod ({ cls := "ChangePlaces$Search", name := "grow", desc := "()Z" } : Jvm.MethodName)) ∈ qx_tbl := qx_t6 0 rfl rfl
set_option maxRecDepth 100000 in
theorem t_1201 : (Jvm.Cond.code ({ cls := "ChangePlaces$Search", name := "grow", desc := "()Z" } : Jvm.MethodName) prog_8_method_7_code (7 : Nat) (Option.some Jvm.ClassFile.FieldType.boolean)) ∈ qx_tbl := qx_t6 1 rfl rfl
set_option maxRecDepth 100000 in
theorem t_1202 : (Jvm.Cond.methodLink "ChangePlaces$Search" (81 : Nat) ({ cls := "ChangePlaces$Search", name := "placeIn", desc := "(II)I" } : Jvm.MethodName)) ∈ qx_tbl := qx_t6 2 rfl rfl
set_option maxRecDepth 100000 in
theorem t_1203 : (Jvm.Cond.static ({ cls := "ChangePlaces$Search", name := "placeIn", desc := "(II)I" } : Jvm.MethodName)) ∈ qx_tbl := qx_t6 3 rfl rfl
set_option maxRecDepth 100000 in
theorem t_1204 : (Jvm.Cond.code ({ cls := "ChangePlaces$Search", name := "placeIn", desc := "(II)I" } : Jvm.MethodName) prog_8_method_4_code (2 : Nat) (Option.some Jvm.ClassFile.FieldType.int)) ∈ qx_tbl := qx_t6 4 rfl rfl
set_option maxRecDepth 100000 in
theorem t_1205 : (Jvm.Cond.methodLink "ChangePlaces$Search" (84 : Nat) ({ cls := "ChangePlaces$Laws", name := "canChange", desc := "(IIII)Z" } : Jvm.MethodName)) ∈ qx_tbl := qx_t6 5 rfl rfl
set_option maxRecDepth 100000 in
theorem t_1206 : (Jvm.Cond.methodLink "ChangePlaces$Search" (91 : Nat) ({ cls := "ChangePlaces$Search", name := "allFound", desc := "(I[I)Z" } : Jvm.MethodName)) ∈ qx_tbl := qx_t6 6 rfl rfl
set_option maxRecDepth 100000 in
theorem t_1208 : (Jvm.Cond.instanceMethod ({ cls := "ChangePlaces$Search", name := "allFound", desc := "(I[I)Z" } : Jvm.MethodName)) ∈ qx_tbl := qx_t6 8 rfl rfl
set_option maxRecDepth 100000 in
theorem t_1209 : (Jvm.Cond.code ({ cls := "ChangePlaces$Search", name := "allFound", desc := "(I[I)Z" } : Jvm.MethodName) prog_8_method_10_code (5 : Nat) (Option.some Jvm.ClassFile.FieldType.boolean)) ∈ qx_tbl := qx_t6 9 rfl rfl
set_option maxRecDepth 100000 in
theorem t_1210 : (Jvm.Cond.methodLink "ChangePlacesLaw" (134 : Nat) ({ cls := "ChangePlaces", name := "row", desc := "(IIII)I" } : Jvm.MethodName)) ∈ qx_tbl := qx_t6 10 rfl rfl
set_option maxRecDepth 100000 in
theorem t_1211 : (Jvm.Cond.instanceMethod ({ cls := "ChangePlaces", name := "row", desc := "(IIII)I" } : Jvm.MethodName)) ∈ qx_tbl := qx_t6 11 rfl rfl
set_option maxRecDepth 100000 in
theorem t_1212 : (Jvm.Cond.selects "ChangePlaces" ({ cls := "ChangePlaces", name := "row", desc := "(IIII)I" } : Jvm.MethodName) ({ cls := "ChangePlaces", name := "row", desc := "(IIII)I" } : Jvm.MethodName)) ∈ qx_tbl := qx_t6 12 rfl rfl
set_option maxRecDepth 100000 in
theorem t_1213 : (Jvm.Cond.code ({ cls := "ChangePlaces", name := "row", desc := "(IIII)I" } : Jvm.MethodName) prog_1_method_32_code (8 : Nat) (Option.some Jvm.ClassFile.FieldType.int)) ∈ qx_tbl := qx_t6 13 rfl rfl
set_option maxRecDepth 100000 in
theorem t_1214 : (Jvm.Cond.methodLink "ChangePlaces" (326 : Nat) ({ cls := "ChangePlaces$Search", name := "ringOnWay", desc := "(II)I" } : Jvm.MethodName)) ∈ qx_tbl := qx_t6 14 rfl rfl
set_option maxRecDepth 100000 in
theorem t_1215 : (Jvm.Cond.instanceMethod ({ cls := "ChangePlaces$Search", name := "ringOnWay", desc := "(II)I" } : Jvm.MethodName)) ∈ qx_tbl := qx_t6 15 rfl rfl
set_option maxRecDepth 100000 in
theorem t_1216 : (Jvm.Cond.selects "ChangePlaces$Search" ({ cls := "ChangePlaces$Search", name := "ringOnWay", desc := "(II)I" } : Jvm.MethodName) ({ cls := "ChangePlaces$Search", name := "ringOnWay", desc := "(II)I" } : Jvm.MethodName)) ∈ qx_tbl := qx_t6 16 rfl rfl
set_option maxRecDepth 100000 in
theorem t_1217 : (Jvm.Cond.code ({ cls := "ChangePlaces$Search", name := "ringOnWay", desc := "(II)I" } : Jvm.MethodName) prog_8_method_14_code (5 : Nat) (Option.some Jvm.ClassFile.FieldType.int)) ∈ qx_tbl := qx_t6 17 rfl rfl
set_option maxRecDepth 100000 in
theorem t_1218 : (Jvm.Cond.methodLink "ChangePlacesLaw" (139 : Nat) ({ cls := "ChangePlaces", name := "reached", desc := "(I)I" } : Jvm.MethodName)) ∈ qx_tbl := qx_t6 18 rfl rfl
set_option maxRecDepth 100000 in
theorem t_1219 : (Jvm.Cond.instanceMethod ({ cls := "ChangePlaces", name := "reached", desc := "(I)I" } : Jvm.MethodName)) ∈ qx_tbl := qx_t6 19 rfl rfl
set_option maxRecDepth 100000 in
theorem t_1220 : (Jvm.Cond.selects "ChangePlaces" ({ cls := "ChangePlaces", name := "reached", desc := "(I)I" } : Jvm.MethodName) ({ cls := "ChangePlaces", name := "reached", desc := "(I)I" } : Jvm.MethodName)) ∈ qx_tbl := qx_t6 20 rfl rfl
set_option maxRecDepth 100000 in
theorem t_1221 : (Jvm.Cond.code ({ cls := "ChangePlaces", name := "reached", desc := "(I)I" } : Jvm.MethodName) prog_1_method_33_code (3 : Nat) (Option.some Jvm.ClassFile.FieldType.int)) ∈ qx_tbl := qx_t6 21 rfl rfl
set_option maxRecDepth 100000 in
theorem t_1222 : (Jvm.Cond.methodLink "ChangePlaces" (330 : Nat) ({ cls := "ChangePlaces$Search", name := "growAll", desc := "()V" } : Jvm.MethodName)) ∈ qx_tbl := qx_t6 22 rfl rfl
set_option maxRecDepth 100000 in
theorem t_1223 : (Jvm.Cond.instanceMethod ({ cls := "ChangePlaces$Search", name := "growAll", desc := "()V" } : Jvm.MethodName)) ∈ qx_tbl := qx_t6 23 rfl rfl
set_option maxRecDepth 100000 in
theorem t_1224 : (Jvm.Cond.selects "ChangePlaces$Search" ({ cls := "ChangePlaces$Search", name := "growAll", desc := "()V" } : Jvm.MethodName) ({ cls := "ChangePlaces$Search", name := "growAll", desc := "()V" } : Jvm.MethodName)) ∈ qx_tbl := qx_t6 24 rfl rfl
set_option maxRecDepth 100000 in
theorem t_1225 : (Jvm.Cond.code ({ cls := "ChangePlaces$Search", name := "growAll", desc := "()V" } : Jvm.MethodName) prog_8_method_8_code (2 : Nat) (Option.none : Option Jvm.ClassFile.FieldType)) ∈ qx_tbl := qx_t6 25 rfl rfl
set_option maxRecDepth 100000 in
theorem t_1226 : (Jvm.Cond.methodLink "ChangePlaces" (333 : Nat) ({ cls := "ChangePlaces$Search", name := "full", desc := "()Z" } : Jvm.MethodName)) ∈ qx_tbl := qx_t6 26 rfl rfl
set_option maxRecDepth 100000 in
theorem t_1227 : (Jvm.Cond.methodLink "ChangePlaces" (337 : Nat) ({ cls := "ChangePlaces$Search", name := "placesOf", desc := "(I)I" } : Jvm.MethodName)) ∈ qx_tbl := qx_t6 27 rfl rfl
set_option maxRecDepth 100000 in
theorem t_1228 : (Jvm.Cond.instanceMethod ({ cls := "ChangePlaces$Search", name := "placesOf", desc := "(I)I" } : Jvm.MethodName)) ∈ qx_tbl := qx_t6 28 rfl rfl
set_option maxRecDepth 100000 in
theorem t_1229 : (Jvm.Cond.selects "ChangePlaces$Search" ({ cls := "ChangePlaces$Search", name := "placesOf", desc := "(I)I" } : Jvm.MethodName) ({ cls := "ChangePlaces$Search", name := "placesOf", desc := "(I)I" } : Jvm.MethodName)) ∈ qx_tbl := qx_t6 29 rfl rfl
set_option maxRecDepth 100000 in
theorem t_1230 : (Jvm.Cond.code ({ cls := "ChangePlaces$Search", name := "placesOf", desc := "(I)I" } : Jvm.MethodName) prog_8_method_13_code (4 : Nat) (Option.some Jvm.ClassFile.FieldType.int)) ∈ qx_tbl := qx_t6 30 rfl rfl
set_option maxRecDepth 100000 in
theorem t_1231 : (Jvm.Cond.methodLink "ChangePlacesLaw" (143 : Nat) ({ cls := "ChangePlaces", name := "found", desc := "(II)Z" } : Jvm.MethodName)) ∈ qx_tbl := qx_t6 31 rfl rfl
set_option maxRecDepth 100000 in
theorem t_1232 : (Jvm.Cond.instanceMethod ({ cls := "ChangePlaces", name := "found", desc := "(II)Z" } : Jvm.MethodName)) ∈ qx_tbl := qx_t6 32 rfl rfl
set_option maxRecDepth 100000 in
theorem t_1233 : (Jvm.Cond.selects "ChangePlaces" ({ cls := "ChangePlaces", name := "found", desc := "(II)Z" } : Jvm.MethodName) ({ cls := "ChangePlaces", name := "found", desc := "(II)Z" } : Jvm.MethodName)) ∈ qx_tbl := qx_t6 33 rfl rfl
set_option maxRecDepth 100000 in
theorem t_1234 : (Jvm.Cond.code ({ cls := "ChangePlaces", name := "found", desc := "(II)Z" } : Jvm.MethodName) prog_1_method_34_code (3 : Nat) (Option.some Jvm.ClassFile.FieldType.boolean)) ∈ qx_tbl := qx_t6 34 rfl rfl
set_option maxRecDepth 100000 in
theorem t_1235 : (Jvm.Cond.methodLink "ChangePlacesLaw" (148 : Nat) ({ cls := "ChangePlaces", name := "done", desc := "(I)I" } : Jvm.MethodName)) ∈ qx_tbl := qx_t6 35 rfl rfl
set_option maxRecDepth 100000 in
theorem t_1236 : (Jvm.Cond.instanceMethod ({ cls := "ChangePlaces", name := "done", desc := "(I)I" } : Jvm.MethodName)) ∈ qx_tbl := qx_t6 36 rfl rfl
set_option maxRecDepth 100000 in
theorem t_1237 : (Jvm.Cond.selects "ChangePlaces" ({ cls := "ChangePlaces", name := "done", desc := "(I)I" } : Jvm.MethodName) ({ cls := "ChangePlaces", name := "done", desc := "(I)I" } : Jvm.MethodName)) ∈ qx_tbl := qx_t6 37 rfl rfl
set_option maxRecDepth 100000 in
theorem t_1238 : (Jvm.Cond.code ({ cls := "ChangePlaces", name := "done", desc := "(I)I" } : Jvm.MethodName) prog_1_method_35_code (5 : Nat) (Option.some Jvm.ClassFile.FieldType.int)) ∈ qx_tbl := qx_t6 38 rfl rfl
set_option maxRecDepth 100000 in
theorem t_1239 : (Jvm.Cond.methodLink "ChangePlaces" (343 : Nat) ({ cls := "ChangePlaces", name := "searchFromHome", desc := "()LChangePlaces$Search;" } : Jvm.MethodName)) ∈ qx_tbl := qx_t6 39 rfl rfl
set_option maxRecDepth 100000 in
theorem t_1241 : (Jvm.Cond.instanceMethod ({ cls := "ChangePlaces", name := "searchFromHome", desc := "()LChangePlaces$Search;" } : Jvm.MethodName)) ∈ qx_tbl := qx_t6 41 rfl rfl
set_option maxRecDepth 100000 in
theorem t_1242 : (Jvm.Cond.code ({ cls := "ChangePlaces", name := "searchFromHome", desc := "()LChangePlaces$Search;" } : Jvm.MethodName) prog_1_method_56_code (1 : Nat) (Option.some (Jvm.ClassFile.FieldType.object "ChangePlaces$Search"))) ∈ qx_tbl := qx_t6 42 rfl rfl
set_option maxRecDepth 100000 in
theorem t_1243 : (Jvm.Cond.methodLink "ChangePlaces" (346 : Nat) ({ cls := "ChangePlaces$Search", name := "growThrough", desc := "(I)Z" } : Jvm.MethodName)) ∈ qx_tbl := qx_t6 43 rfl rfl
set_option maxRecDepth 100000 in
theorem t_1244 : (Jvm.Cond.instanceMethod ({ cls := "ChangePlaces$Search", name := "growThrough", desc := "(I)Z" } : Jvm.MethodName)) ∈ qx_tbl := qx_t6 44 rfl rfl
set_option maxRecDepth 100000 in
theorem t_1245 : (Jvm.Cond.selects "ChangePlaces$Search" ({ cls := "ChangePlaces$Search", name := "growThrough", desc := "(I)Z" } : Jvm.MethodName) ({ cls := "ChangePlaces$Search", name := "growThrough", desc := "(I)Z" } : Jvm.MethodName)) ∈ qx_tbl := qx_t6 45 rfl rfl
set_option maxRecDepth 100000 in
theorem t_1246 : (Jvm.Cond.code ({ cls := "ChangePlaces$Search", name := "growThrough", desc := "(I)Z" } : Jvm.MethodName) prog_8_method_9_code (3 : Nat) (Option.some Jvm.ClassFile.FieldType.boolean)) ∈ qx_tbl := qx_t6 46 rfl rfl
set_option maxRecDepth 100000 in
theorem t_1247 : (Jvm.Cond.methodLink "ChangePlaces" (349 : Nat) ({ cls := "ChangePlaces$Search", name := "countOf", desc := "([II)I" } : Jvm.MethodName)) ∈ qx_tbl := qx_t6 47 rfl rfl
set_option maxRecDepth 100000 in
theorem t_1248 : (Jvm.Cond.instanceMethod ({ cls := "ChangePlaces$Search", name := "countOf", desc := "([II)I" } : Jvm.MethodName)) ∈ qx_tbl := qx_t6 48 rfl rfl
set_option maxRecDepth 100000 in
theorem t_1249 : (Jvm.Cond.selects "ChangePlaces$Search" ({ cls := "ChangePlaces$Search", name := "countOf", desc := "([II)I" } : Jvm.MethodName) ({ cls := "ChangePlaces$Search", name := "countOf", desc := "([II)I" } : Jvm.MethodName)) ∈ qx_tbl := qx_t6 49 rfl rfl
set_option maxRecDepth 100000 in
theorem t_1250 : (Jvm.Cond.code ({ cls := "ChangePlaces$Search", name := "countOf", desc := "([II)I" } : Jvm.MethodName) prog_8_method_12_code (5 : Nat) (Option.some Jvm.ClassFile.FieldType.int)) ∈ qx_tbl := qx_t6 50 rfl rfl
set_option maxRecDepth 100000 in
theorem t_1251 : (Jvm.Cond.methodLink "ChangePlacesLaw" (152 : Nat) ({ cls := "ChangePlaces", name := "doctors", desc := "(I)I" } : Jvm.MethodName)) ∈ qx_tbl := qx_t6 51 rfl rfl
set_option maxRecDepth 100000 in
theorem t_1252 : (Jvm.Cond.instanceMethod ({ cls := "ChangePlaces", name := "doctors", desc := "(I)I" } : Jvm.MethodName)) ∈ qx_tbl := qx_t6 52 rfl rfl
set_option maxRecDepth 100000 in
theorem t_1253 : (Jvm.Cond.selects "ChangePlaces" ({ cls := "ChangePlaces", name := "doctors", desc := "(I)I" } : Jvm.MethodName) ({ cls := "ChangePlaces", name := "doctors", desc := "(I)I" } : Jvm.MethodName)) ∈ qx_tbl := qx_t6 53 rfl rfl
set_option maxRecDepth 100000 in
theorem t_1254 : (Jvm.Cond.code ({ cls := "ChangePlaces", name := "doctors", desc := "(I)I" } : Jvm.MethodName) prog_1_method_36_code (2 : Nat) (Option.some Jvm.ClassFile.FieldType.int)) ∈ qx_tbl := qx_t6 54 rfl rfl
set_option maxRecDepth 100000 in
theorem t_1255 : (Jvm.Cond.methodLink "ChangePlaces" (356 : Nat) ({ cls := "ChangePlaces", name := "findServers", desc := "()V" } : Jvm.MethodName)) ∈ qx_tbl := qx_t6 55 rfl rfl
set_option maxRecDepth 100000 in
theorem t_1257 : (Jvm.Cond.instanceMethod ({ cls := "ChangePlaces", name := "findServers", desc := "()V" } : Jvm.MethodName)) ∈ qx_tbl := qx_t6 57 rfl rfl
set_option maxRecDepth 100000 in
theorem t_1258 : (Jvm.Cond.code ({ cls := "ChangePlaces", name := "findServers", desc := "()V" } : Jvm.MethodName) prog_1_method_57_code (4 : Nat) (Option.none : Option Jvm.ClassFile.FieldType)) ∈ qx_tbl := qx_t6 58 rfl rfl
set_option maxRecDepth 100000 in
theorem t_1259 : (Jvm.Cond.methodLink "ChangePlaces" (359 : Nat) ({ cls := "ChangePlaces", name := "fewestDoctors", desc := "()I" } : Jvm.MethodName)) ∈ qx_tbl := qx_t6 59 rfl rfl
set_option maxRecDepth 100000 in
theorem t_1261 : (Jvm.Cond.instanceMethod ({ cls := "ChangePlaces", name := "fewestDoctors", desc := "()I" } : Jvm.MethodName)) ∈ qx_tbl := qx_t6 61 rfl rfl
set_option maxRecDepth 100000 in
theorem t_1262 : (Jvm.Cond.code ({ cls := "ChangePlaces", name := "fewestDoctors", desc := "()I" } : Jvm.MethodName) prog_1_method_59_code (4 : Nat) (Option.some Jvm.ClassFile.FieldType.int)) ∈ qx_tbl := qx_t6 62 rfl rfl
set_option maxRecDepth 100000 in
theorem t_1263 : (Jvm.Cond.methodLink "ChangePlaces" (436 : Nat) ({ cls := "java/lang/Integer", name := "bitCount", desc := "(I)I" } : Jvm.MethodName)) ∈ qx_tbl := qx_t6 63 rfl rfl
set_option maxRecDepth 100000 in
theorem t_1264 : (Jvm.Cond.static ({ cls := "java/lang/Integer", name := "bitCount", desc := "(I)I" } : Jvm.MethodName)) ∈ qx_tbl := qx_t6 64 rfl rfl
set_option maxRecDepth 100000 in
theorem t_1265 : (Jvm.Cond.code ({ cls := "java/lang/Integer", name := "bitCount", desc := "(I)I" } : Jvm.MethodName) prog_15_method_49_code (1 : Nat) (Option.some Jvm.ClassFile.FieldType.int)) ∈ qx_tbl := qx_t6 65 rfl rfl
set_option maxRecDepth 100000 in
theorem t_1266 : (Jvm.Cond.constant "java/lang/Integer" (265 : Nat) (1431655765 : Int32)) ∈ qx_tbl := qx_t6 66 rfl rfl
set_option maxRecDepth 100000 in
theorem t_1267 : (Jvm.Cond.constant "java/lang/Integer" (266 : Nat) (858993459 : Int32)) ∈ qx_tbl := qx_t6 67 rfl rfl
set_option maxRecDepth 100000 in
theorem t_1268 : (Jvm.Cond.constant "java/lang/Integer" (267 : Nat) (252645135 : Int32)) ∈ qx_tbl := qx_t6 68 rfl rfl
set_option maxRecDepth 100000 in
theorem t_1269 : (Jvm.Cond.methodLink "ChangePlaces" (370 : Nat) ({ cls := "ChangePlaces", name := "servedBy", desc := "(I)I" } : Jvm.MethodName)) ∈ qx_tbl := qx_t6 69 rfl rfl
set_option maxRecDepth 100000 in
theorem t_1271 : (Jvm.Cond.instanceMethod ({ cls := "ChangePlaces", name := "servedBy", desc := "(I)I" } : Jvm.MethodName)) ∈ qx_tbl := qx_t6 71 rfl rfl
set_option maxRecDepth 100000 in
theorem t_1272 : (Jvm.Cond.code ({ cls := "ChangePlaces", name := "servedBy", desc := "(I)I" } : Jvm.MethodName) prog_1_method_58_code (4 : Nat) (Option.some Jvm.ClassFile.FieldType.int)) ∈ qx_tbl := qx_t6 72 rfl rfl
set_option maxRecDepth 100000 in
theorem t_1273 : (Jvm.Cond.methodLink "ChangePlaces" (362 : Nat) ({ cls := "java/lang/Math", name := "min", desc := "(II)I" } : Jvm.MethodName)) ∈ qx_tbl := qx_t6 73 rfl rfl
set_option maxRecDepth 100000 in
theorem t_1274 : (Jvm.Cond.methodLink "ChangePlaces" (367 : Nat) ({ cls := "ChangePlaces", name := "bestDoctors", desc := "(I)I" } : Jvm.MethodName)) ∈ qx_tbl := qx_t6 74 rfl rfl
set_option maxRecDepth 100000 in
theorem t_1276 : (Jvm.Cond.instanceMethod ({ cls := "ChangePlaces", name := "bestDoctors", desc := "(I)I" } : Jvm.MethodName)) ∈ qx_tbl := qx_t6 76 rfl rfl
set_option maxRecDepth 100000 in
theorem t_1277 : (Jvm.Cond.code ({ cls := "ChangePlaces", name := "bestDoctors", desc := "(I)I" } : Jvm.MethodName) prog_1_method_60_code (6 : Nat) (Option.some Jvm.ClassFile.FieldType.int)) ∈ qx_tbl := qx_t6 77 rfl rfl
set_option maxRecDepth 100000 in
theorem t_1278 : (Jvm.Cond.methodLink "ChangePlacesLaw" (156 : Nat) ({ cls := "ChangePlaces", name := "served", desc := "(I)I" } : Jvm.MethodName)) ∈ qx_tbl := qx_t6 78 rfl rfl
set_option maxRecDepth 100000 in
theorem t_1279 : (Jvm.Cond.instanceMethod ({ cls := "ChangePlaces", name := "served", desc := "(I)I" } : Jvm.MethodName)) ∈ qx_tbl := qx_t6 79 rfl rfl
set_option maxRecDepth 100000 in
theorem t_1280 : (Jvm.Cond.selects "ChangePlaces" ({ cls := "ChangePlaces", name := "served", desc := "(I)I" } : Jvm.MethodName) ({ cls := "ChangePlaces", name := "served", desc := "(I)I" } : Jvm.MethodName)) ∈ qx_tbl := qx_t6 80 rfl rfl
set_option maxRecDepth 100000 in
theorem t_1281 : (Jvm.Cond.code ({ cls := "ChangePlaces", name := "served", desc := "(I)I" } : Jvm.MethodName) prog_1_method_37_code (2 : Nat) (Option.some Jvm.ClassFile.FieldType.int)) ∈ qx_tbl := qx_t6 81 rfl rfl
set_option maxRecDepth 100000 in
theorem t_1282 : (Jvm.Cond.methodLink "ChangePlacesLaw" (160 : Nat) ({ cls := "ChangePlaces", name := "liars", desc := "(I)I" } : Jvm.MethodName)) ∈ qx_tbl := qx_t6 82 rfl rfl
set_option maxRecDepth 100000 in
theorem t_1283 : (Jvm.Cond.instanceMethod ({ cls := "ChangePlaces", name := "liars", desc := "(I)I" } : Jvm.MethodName)) ∈ qx_tbl := qx_t6 83 rfl rfl
set_option maxRecDepth 100000 in
theorem t_1284 : (Jvm.Cond.selects "ChangePlaces" ({ cls := "ChangePlaces", name := "liars", desc := "(I)I" } : Jvm.MethodName) ({ cls := "ChangePlaces", name := "liars", desc := "(I)I" } : Jvm.MethodName)) ∈ qx_tbl := qx_t6 84 rfl rfl
set_option maxRecDepth 100000 in
theorem t_1285 : (Jvm.Cond.code ({ cls := "ChangePlaces", name := "liars", desc := "(I)I" } : Jvm.MethodName) prog_1_method_38_code (4 : Nat) (Option.some Jvm.ClassFile.FieldType.int)) ∈ qx_tbl := qx_t6 85 rfl rfl
set_option maxRecDepth 100000 in
theorem t_1286 : (Jvm.Cond.methodLink "ChangePlaces" (373 : Nat) ({ cls := "ChangePlaces", name := "wayOf", desc := "(I)LChangePlaces$Way;" } : Jvm.MethodName)) ∈ qx_tbl := qx_t6 86 rfl rfl
set_option maxRecDepth 100000 in
theorem t_1288 : (Jvm.Cond.instanceMethod ({ cls := "ChangePlaces", name := "wayOf", desc := "(I)LChangePlaces$Way;" } : Jvm.MethodName)) ∈ qx_tbl := qx_t6 88 rfl rfl
set_option maxRecDepth 100000 in
theorem t_1289 : (Jvm.Cond.code ({ cls := "ChangePlaces", name := "wayOf", desc := "(I)LChangePlaces$Way;" } : Jvm.MethodName) prog_1_method_61_code (2 : Nat) (Option.some (Jvm.ClassFile.FieldType.object "ChangePlaces$Way"))) ∈ qx_tbl := qx_t6 89 rfl rfl
set_option maxRecDepth 100000 in
theorem t_1290 : (Jvm.Cond.methodLink "ChangePlaces" (377 : Nat) ({ cls := "ChangePlaces$Way", name := "lieOf", desc := "(I[I)I" } : Jvm.MethodName)) ∈ qx_tbl := qx_t6 90 rfl rfl
set_option maxRecDepth 100000 in
theorem t_1291 : (Jvm.Cond.instanceMethod ({ cls := "ChangePlaces$Way", name := "lieOf", desc := "(I[I)I" } : Jvm.MethodName)) ∈ qx_tbl := qx_t6 91 rfl rfl
set_option maxRecDepth 100000 in
theorem t_1292 : (Jvm.Cond.sameMethod "ChangePlaces$Way" "ChangePlaces$Way" "lieOf" "(I[I)I") ∈ qx_tbl := qx_t6 92 rfl rfl
set_option maxRecDepth 100000 in
theorem t_1293 : (Jvm.Cond.selects "ChangePlaces$Core" ({ cls := "ChangePlaces$Way", name := "lieOf", desc := "(I[I)I" } : Jvm.MethodName) ({ cls := "ChangePlaces$Way", name := "lieOf", desc := "(I[I)I" } : Jvm.MethodName)) ∈ qx_tbl := qx_t6 93 rfl rfl
set_option maxRecDepth 100000 in
theorem t_1294 : (Jvm.Cond.selects "ChangePlaces$Most" ({ cls := "ChangePlaces$Way", name := "lieOf", desc := "(I[I)I" } : Jvm.MethodName) ({ cls := "ChangePlaces$Way", name := "lieOf", desc := "(I[I)I" } : Jvm.MethodName)) ∈ qx_tbl := qx_t6 94 rfl rfl
set_option maxRecDepth 100000 in
theorem t_1295 : (Jvm.Cond.code ({ cls := "ChangePlaces$Way", name := "lieOf", desc := "(I[I)I" } : Jvm.MethodName) prog_12_method_6_code (7 : Nat) (Option.some Jvm.ClassFile.FieldType.int)) ∈ qx_tbl := qx_t6 95 rfl rfl
set_option maxRecDepth 100000 in
theorem t_1296 : (Jvm.Cond.methodLink "ChangePlaces$Way" (60 : Nat) ({ cls := "ChangePlaces$Way", name := "settle", desc := "([II)V" } : Jvm.MethodName)) ∈ qx_tbl := qx_t6 96 rfl rfl
set_option maxRecDepth 100000 in
theorem t_1298 : (Jvm.Cond.sameMethod "ChangePlaces$Way" "ChangePlaces$Way" "settle" "([II)V") ∈ qx_tbl := qx_t6 98 rfl rfl
set_option maxRecDepth 100000 in
theorem t_1299 : (Jvm.Cond.selects "ChangePlaces$Core" ({ cls := "ChangePlaces$Way", name := "settle", desc := "([II)V" } : Jvm.MethodName) ({ cls := "ChangePlaces$Core", name := "settle", desc := "([II)V" } : Jvm.MethodName)) ∈ qx_tbl := qx_t6 99 rfl rfl
set_option maxRecDepth 100000 in
theorem t_1300 : (Jvm.Cond.selects "ChangePlaces$Most" ({ cls := "ChangePlaces$Way", name := "settle", desc := "([II)V" } : Jvm.MethodName) ({ cls := "ChangePlaces$Most", name := "settle", desc := "([II)V" } : Jvm.MethodName)) ∈ qx_tbl := qx_t6 100 rfl rfl
set_option maxRecDepth 100000 in
theorem t_1301 : (Jvm.Cond.methodLink "ChangePlaces$Way" (64 : Nat) ({ cls := "java/lang/System", name := "arraycopy", desc := "(Ljava/lang/Object;ILjava/lang/Object;II)V" } : Jvm.MethodName)) ∈ qx_tbl := qx_t6 101 rfl rfl
set_option maxRecDepth 100000 in
theorem t_1302 : (Jvm.Cond.methodLink "ChangePlacesLaw" (164 : Nat) ({ cls := "ChangePlaces", name := "lie", desc := "(II)I" } : Jvm.MethodName)) ∈ qx_tbl := qx_t6 102 rfl rfl
set_option maxRecDepth 100000 in
theorem t_1303 : (Jvm.Cond.instanceMethod ({ cls := "ChangePlaces", name := "lie", desc := "(II)I" } : Jvm.MethodName)) ∈ qx_tbl := qx_t6 103 rfl rfl
set_option maxRecDepth 100000 in
theorem t_1304 : (Jvm.Cond.selects "ChangePlaces" ({ cls := "ChangePlaces", name := "lie", desc := "(II)I" } : Jvm.MethodName) ({ cls := "ChangePlaces", name := "lie", desc := "(II)I" } : Jvm.MethodName)) ∈ qx_tbl := qx_t6 104 rfl rfl
set_option maxRecDepth 100000 in
theorem t_1305 : (Jvm.Cond.code ({ cls := "ChangePlaces", name := "lie", desc := "(II)I" } : Jvm.MethodName) prog_1_method_39_code (3 : Nat) (Option.some Jvm.ClassFile.FieldType.int)) ∈ qx_tbl := qx_t6 105 rfl rfl
set_option maxRecDepth 100000 in
theorem t_1306 : (Jvm.Cond.methodLink "ChangePlacesLaw" (168 : Nat) ({ cls := "ChangePlaces", name := "seed", desc := "(I)I" } : Jvm.MethodName)) ∈ qx_tbl := qx_t6 106 rfl rfl
set_option maxRecDepth 100000 in
theorem t_1307 : (Jvm.Cond.instanceMethod ({ cls := "ChangePlaces", name := "seed", desc := "(I)I" } : Jvm.MethodName)) ∈ qx_tbl := qx_t6 107 rfl rfl
set_option maxRecDepth 100000 in
theorem t_1308 : (Jvm.Cond.selects "ChangePlaces" ({ cls := "ChangePlaces", name := "seed", desc := "(I)I" } : Jvm.MethodName) ({ cls := "ChangePlaces", name := "seed", desc := "(I)I" } : Jvm.MethodName)) ∈ qx_tbl := qx_t6 108 rfl rfl
set_option maxRecDepth 100000 in
theorem t_1309 : (Jvm.Cond.code ({ cls := "ChangePlaces", name := "seed", desc := "(I)I" } : Jvm.MethodName) prog_1_method_40_code (3 : Nat) (Option.some Jvm.ClassFile.FieldType.int)) ∈ qx_tbl := qx_t6 109 rfl rfl
set_option maxRecDepth 100000 in
theorem t_1310 : (Jvm.Cond.methodLink "ChangePlacesLaw" (172 : Nat) ({ cls := "ChangePlaces", name := "years", desc := "(III)I" } : Jvm.MethodName)) ∈ qx_tbl := qx_t6 110 rfl rfl
set_option maxRecDepth 100000 in
theorem t_1311 : (Jvm.Cond.instanceMethod ({ cls := "ChangePlaces", name := "years", desc := "(III)I" } : Jvm.MethodName)) ∈ qx_tbl := qx_t6 111 rfl rfl
set_option maxRecDepth 100000 in
theorem t_1312 : (Jvm.Cond.selects "ChangePlaces" ({ cls := "ChangePlaces", name := "years", desc := "(III)I" } : Jvm.MethodName) ({ cls := "ChangePlaces", name := "years", desc := "(III)I" } : Jvm.MethodName)) ∈ qx_tbl := qx_t6 112 rfl rfl
set_option maxRecDepth 100000 in
theorem t_1313 : (Jvm.Cond.code ({ cls := "ChangePlaces", name := "years", desc := "(III)I" } : Jvm.MethodName) prog_1_method_41_code (7 : Nat) (Option.some Jvm.ClassFile.FieldType.int)) ∈ qx_tbl := qx_t6 113 rfl rfl
set_option maxRecDepth 100000 in
theorem t_1314 : (Jvm.Cond.methodLink "ChangePlaces" (383 : Nat) ({ cls := "ChangePlaces$Laws", name := "askOf", desc := "(LChangePlaces$Standing;)V" } : Jvm.MethodName)) ∈ qx_tbl := qx_t6 114 rfl rfl
set_option maxRecDepth 100000 in
theorem t_1315 : (Jvm.Cond.instanceMethod ({ cls := "ChangePlaces$Laws", name := "askOf", desc := "(LChangePlaces$Standing;)V" } : Jvm.MethodName)) ∈ qx_tbl := qx_t6 115 rfl rfl
set_option maxRecDepth 100000 in
theorem t_1316 : (Jvm.Cond.selects "ChangePlaces$Laws" ({ cls := "ChangePlaces$Laws", name := "askOf", desc := "(LChangePlaces$Standing;)V" } : Jvm.MethodName) ({ cls := "ChangePlaces$Laws", name := "askOf", desc := "(LChangePlaces$Standing;)V" } : Jvm.MethodName)) ∈ qx_tbl := qx_t6 116 rfl rfl
set_option maxRecDepth 100000 in
theorem t_1317 : (Jvm.Cond.code ({ cls := "ChangePlaces$Laws", name := "askOf", desc := "(LChangePlaces$Standing;)V" } : Jvm.MethodName) prog_4_method_3_code (2 : Nat) (Option.none : Option Jvm.ClassFile.FieldType)) ∈ qx_tbl := qx_t6 117 rfl rfl
set_option maxRecDepth 100000 in
theorem t_1318 : (Jvm.Cond.methodLink "ChangePlaces" (387 : Nat) ({ cls := "ChangePlaces", name := "liveYear", desc := "(II)I" } : Jvm.MethodName)) ∈ qx_tbl := qx_t6 118 rfl rfl
set_option maxRecDepth 100000 in
theorem t_1320 : (Jvm.Cond.instanceMethod ({ cls := "ChangePlaces", name := "liveYear", desc := "(II)I" } : Jvm.MethodName)) ∈ qx_tbl := qx_t6 120 rfl rfl
set_option maxRecDepth 100000 in
theorem t_1321 : (Jvm.Cond.code ({ cls := "ChangePlaces", name := "liveYear", desc := "(II)I" } : Jvm.MethodName) prog_1_method_63_code (7 : Nat) (Option.some Jvm.ClassFile.FieldType.int)) ∈ qx_tbl := qx_t6 121 rfl rfl
set_option maxRecDepth 100000 in
theorem t_1322 : (Jvm.Cond.methodLink "ChangePlaces" (447 : Nat) ({ cls := "ChangePlaces$Standing", name := "copyFrom", desc := "(LChangePlaces$Standing;)V" } : Jvm.MethodName)) ∈ qx_tbl := qx_t6 122 rfl rfl
set_option maxRecDepth 100000 in
theorem t_1323 : (Jvm.Cond.methodLink "ChangePlaces" (449 : Nat) ({ cls := "ChangePlaces", name := "drawnPerson", desc := "()I" } : Jvm.MethodName)) ∈ qx_tbl := qx_t6 123 rfl rfl
set_option maxRecDepth 100000 in
theorem t_1325 : (Jvm.Cond.instanceMethod ({ cls := "ChangePlaces", name := "drawnPerson", desc := "()I" } : Jvm.MethodName)) ∈ qx_tbl := qx_t6 125 rfl rfl
set_option maxRecDepth 100000 in
theorem t_1326 : (Jvm.Cond.code ({ cls := "ChangePlaces", name := "drawnPerson", desc := "()I" } : Jvm.MethodName) prog_1_method_62_code (2 : Nat) (Option.some Jvm.ClassFile.FieldType.int)) ∈ qx_tbl := qx_t6 126 rfl rfl
set_option maxRecDepth 100000 in
theorem t_1327 : (Jvm.Cond.constantLong "ChangePlaces" (441 : Nat) (1103515245 : Int64)) ∈ qx_tbl := qx_t6 127 rfl rfl
set_option maxRecDepth 100000 in
theorem t_1328 : (Jvm.Cond.constantLong "ChangePlaces" (443 : Nat) (12345 : Int64)) ∈ qx_tbl := qx_t6 128 rfl rfl
set_option maxRecDepth 100000 in
theorem t_1329 : (Jvm.Cond.constantLong "ChangePlaces" (445 : Nat) (2147483647 : Int64)) ∈ qx_tbl := qx_t6 129 rfl rfl
set_option maxRecDepth 100000 in
theorem t_1330 : (Jvm.Cond.methodLink "ChangePlaces" (452 : Nat) ({ cls := "ChangePlaces", name := "contentOnTrial", desc := "()I" } : Jvm.MethodName)) ∈ qx_tbl := qx_t6 130 rfl rfl
set_option maxRecDepth 100000 in
theorem t_1332 : (Jvm.Cond.instanceMethod ({ cls := "ChangePlaces", name := "contentOnTrial", desc := "()I" } : Jvm.MethodName)) ∈ qx_tbl := qx_t6 132 rfl rfl
set_option maxRecDepth 100000 in
theorem t_1333 : (Jvm.Cond.code ({ cls := "ChangePlaces", name := "contentOnTrial", desc := "()I" } : Jvm.MethodName) prog_1_method_64_code (3 : Nat) (Option.some Jvm.ClassFile.FieldType.int)) ∈ qx_tbl := qx_t6 133 rfl rfl
set_option maxRecDepth 100000 in
theorem t_1334 : (Jvm.Cond.methodLink "ChangePlaces" (390 : Nat) ({ cls := "ChangePlaces$Laws", name := "askAsUsual", desc := "()V" } : Jvm.MethodName)) ∈ qx_tbl := qx_t6 134 rfl rfl
set_option maxRecDepth 100000 in
theorem t_1335 : (Jvm.Cond.instanceMethod ({ cls := "ChangePlaces$Laws", name := "askAsUsual", desc := "()V" } : Jvm.MethodName)) ∈ qx_tbl := qx_t6 135 rfl rfl
set_option maxRecDepth 100000 in
theorem t_1336 : (Jvm.Cond.selects "ChangePlaces$Laws" ({ cls := "ChangePlaces$Laws", name := "askAsUsual", desc := "()V" } : Jvm.MethodName) ({ cls := "ChangePlaces$Laws", name := "askAsUsual", desc := "()V" } : Jvm.MethodName)) ∈ qx_tbl := qx_t6 136 rfl rfl
set_option maxRecDepth 100000 in
theorem t_1337 : (Jvm.Cond.code ({ cls := "ChangePlaces$Laws", name := "askAsUsual", desc := "()V" } : Jvm.MethodName) prog_4_method_4_code (1 : Nat) (Option.none : Option Jvm.ClassFile.FieldType)) ∈ qx_tbl := qx_t6 137 rfl rfl
set_option maxRecDepth 100000 in
theorem t_1338 : (Jvm.Cond.methodLink "ChangePlacesLaw" (180 : Nat) ({ cls := "ChangePlaces", name := "image", desc := "(I)I" } : Jvm.MethodName)) ∈ qx_tbl := qx_t6 138 rfl rfl
set_option maxRecDepth 100000 in
theorem t_1339 : (Jvm.Cond.instanceMethod ({ cls := "ChangePlaces", name := "image", desc := "(I)I" } : Jvm.MethodName)) ∈ qx_tbl := qx_t6 139 rfl rfl
set_option maxRecDepth 100000 in
theorem t_1340 : (Jvm.Cond.selects "ChangePlaces" ({ cls := "ChangePlaces", name := "image", desc := "(I)I" } : Jvm.MethodName) ({ cls := "ChangePlaces", name := "image", desc := "(I)I" } : Jvm.MethodName)) ∈ qx_tbl := qx_t6 140 rfl rfl
set_option maxRecDepth 100000 in
theorem t_1341 : (Jvm.Cond.code ({ cls := "ChangePlaces", name := "image", desc := "(I)I" } : Jvm.MethodName) prog_1_method_42_code (2 : Nat) (Option.some Jvm.ClassFile.FieldType.int)) ∈ qx_tbl := qx_t6 141 rfl rfl
set_option maxRecDepth 100000 in
theorem t_1342 : (Jvm.Cond.methodLink "ChangePlaces" (393 : Nat) ({ cls := "ChangePlaces$State", name := "copyFrom", desc := "(LChangePlaces$State;)V" } : Jvm.MethodName)) ∈ qx_tbl := qx_t6 142 rfl rfl
set_option maxRecDepth 100000 in
theorem t_1343 : (Jvm.Cond.instanceMethod ({ cls := "ChangePlaces$State", name := "copyFrom", desc := "(LChangePlaces$State;)V" } : Jvm.MethodName)) ∈ qx_tbl := qx_t6 143 rfl rfl
set_option maxRecDepth 100000 in
theorem t_1344 : (Jvm.Cond.selects "ChangePlaces$State" ({ cls := "ChangePlaces$State", name := "copyFrom", desc := "(LChangePlaces$State;)V" } : Jvm.MethodName) ({ cls := "ChangePlaces$State", name := "copyFrom", desc := "(LChangePlaces$State;)V" } : Jvm.MethodName)) ∈ qx_tbl := qx_t6 144 rfl rfl
set_option maxRecDepth 100000 in
theorem t_1345 : (Jvm.Cond.code ({ cls := "ChangePlaces$State", name := "copyFrom", desc := "(LChangePlaces$State;)V" } : Jvm.MethodName) prog_10_method_3_code (3 : Nat) (Option.none : Option Jvm.ClassFile.FieldType)) ∈ qx_tbl := qx_t6 145 rfl rfl
set_option maxRecDepth 100000 in
theorem t_1346 : (Jvm.Cond.methodLink "ChangePlaces$State" (83 : Nat) ({ cls := "ChangePlaces$Ring", name := "copyFrom", desc := "(LChangePlaces$Ring;)V" } : Jvm.MethodName)) ∈ qx_tbl := qx_t6 146 rfl rfl
set_option maxRecDepth 100000 in
theorem t_1347 : (Jvm.Cond.methodLink "ChangePlaces$State" (86 : Nat) ({ cls := "java/lang/System", name := "arraycopy", desc := "(Ljava/lang/Object;ILjava/lang/Object;II)V" } : Jvm.MethodName)) ∈ qx_tbl := qx_t6 147 rfl rfl
set_option maxRecDepth 100000 in
theorem t_1348 : (Jvm.Cond.methodLink "ChangePlacesLaw" (184 : Nat) ({ cls := "ChangePlaces", name := "back", desc := "(I)I" } : Jvm.MethodName)) ∈ qx_tbl := qx_t6 148 rfl rfl
set_option maxRecDepth 100000 in
theorem t_1349 : (Jvm.Cond.instanceMethod ({ cls := "ChangePlaces", name := "back", desc := "(I)I" } : Jvm.MethodName)) ∈ qx_tbl := qx_t6 149 rfl rfl
set_option maxRecDepth 100000 in
theorem t_1350 : (Jvm.Cond.selects "ChangePlaces" ({ cls := "ChangePlaces", name := "back", desc := "(I)I" } : Jvm.MethodName) ({ cls := "ChangePlaces", name := "back", desc := "(I)I" } : Jvm.MethodName)) ∈ qx_tbl := qx_t6 150 rfl rfl
set_option maxRecDepth 100000 in
theorem t_1351 : (Jvm.Cond.code ({ cls := "ChangePlaces", name := "back", desc := "(I)I" } : Jvm.MethodName) prog_1_method_43_code (2 : Nat) (Option.some Jvm.ClassFile.FieldType.int)) ∈ qx_tbl := qx_t6 151 rfl rfl
set_option maxRecDepth 100000 in
theorem t_1352 : (Jvm.Cond.classLink "ChangePlacesLaw" (10 : Nat) "ChangePlacesModel") ∈ qx_tbl := qx_t6 152 rfl rfl
set_option maxRecDepth 100000 in
theorem t_1353 : (Jvm.Cond.instantiable "ChangePlacesModel" (53 : Nat)) ∈ qx_tbl := qx_t6 153 rfl rfl
set_option maxRecDepth 100000 in
theorem t_1354 : (Jvm.Cond.methodLink "ChangePlacesLaw" (12 : Nat) ({ cls := "ChangePlacesModel", name := "<init>", desc := "()V" } : Jvm.MethodName)) ∈ qx_tbl := qx_t6 154 rfl rfl
set_option maxRecDepth 100000 in
theorem t_1355 : (Jvm.Cond.instanceMethod ({ cls := "ChangePlacesModel", name := "<init>", desc := "()V" } : Jvm.MethodName)) ∈ qx_tbl := qx_t6 155 rfl rfl
set_option maxRecDepth 100000 in
theorem t_1356 : (Jvm.Cond.code ({ cls := "ChangePlacesModel", name := "<init>", desc := "()V" } : Jvm.MethodName) prog_14_method_1_code (1 : Nat) (Option.none : Option Jvm.ClassFile.FieldType)) ∈ qx_tbl := qx_t6 156 rfl rfl
set_option maxRecDepth 100000 in
theorem t_1357 : (Jvm.Cond.methodLink "ChangePlacesModel" (1 : Nat) ({ cls := "java/lang/Object", name := "<init>", desc := "()V" } : Jvm.MethodName)) ∈ qx_tbl := qx_t6 157 rfl rfl
set_option maxRecDepth 100000 in
theorem t_1358 : (Jvm.Cond.fieldLink "ChangePlacesModel" (7 : Nat) "ChangePlacesModel" "tape" "[B") ∈ qx_tbl := qx_t6 158 rfl rfl
set_option maxRecDepth 100000 in
theorem t_1359 : (Jvm.Cond.fieldLink "ChangePlacesModel" (110 : Nat) "ChangePlacesModel" "taped" "I") ∈ qx_tbl := qx_t6 159 rfl rfl
set_option maxRecDepth 100000 in
theorem t_1360 : (Jvm.Cond.fieldLink "ChangePlacesModel" (292 : Nat) "ChangePlacesModel" "rules" "I") ∈ qx_tbl := qx_t6 160 rfl rfl
set_option maxRecDepth 100000 in
theorem t_1361 : (Jvm.Cond.fieldLink "ChangePlacesModel" (13 : Nat) "ChangePlacesModel" "sign" "[I") ∈ qx_tbl := qx_t6 161 rfl rfl
set_option maxRecDepth 100000 in
theorem t_1362 : (Jvm.Cond.fieldLink "ChangePlacesModel" (17 : Nat) "ChangePlacesModel" "length" "[I") ∈ qx_tbl := qx_t6 162 rfl rfl
set_option maxRecDepth 100000 in
theorem t_1363 : (Jvm.Cond.fieldLink "ChangePlacesModel" (20 : Nat) "ChangePlacesModel" "clause" "[I") ∈ qx_tbl := qx_t6 163 rfl rfl
set_option maxRecDepth 100000 in
theorem t_1364 : (Jvm.Cond.fieldLink "ChangePlacesModel" (23 : Nat) "ChangePlacesModel" "clauses" "[I") ∈ qx_tbl := qx_t6 164 rfl rfl
set_option maxRecDepth 100000 in
theorem t_1365 : (Jvm.Cond.fieldLink "ChangePlacesModel" (26 : Nat) "ChangePlacesModel" "read" "[I") ∈ qx_tbl := qx_t6 165 rfl rfl
set_option maxRecDepth 100000 in
theorem t_1366 : (Jvm.Cond.fieldLink "ChangePlacesModel" (120 : Nat) "ChangePlacesModel" "next" "I") ∈ qx_tbl := qx_t6 166 rfl rfl
set_option maxRecDepth 100000 in
theorem t_1367 : (Jvm.Cond.fieldLink "ChangePlacesModel" (117 : Nat) "ChangePlacesModel" "wrong" "I") ∈ qx_tbl := qx_t6 167 rfl rfl
set_option maxRecDepth 100000 in
theorem t_1368 : (Jvm.Cond.fieldLink "ChangePlacesModel" (145 : Nat) "ChangePlacesModel" "number" "I") ∈ qx_tbl := qx_t6 168 rfl rfl
set_option maxRecDepth 100000 in
theorem t_1369 : (Jvm.Cond.fieldLink "ChangePlacesModel" (176 : Nat) "ChangePlacesModel" "text" "I") ∈ qx_tbl := qx_t6 169 rfl rfl
set_option maxRecDepth 100000 in
theorem t_1370 : (Jvm.Cond.fieldLink "ChangePlacesModel" (179 : Nat) "ChangePlacesModel" "made" "I") ∈ qx_tbl := qx_t6 170 rfl rfl
set_option maxRecDepth 100000 in
theorem t_1371 : (Jvm.Cond.fieldLink "ChangePlacesModel" (182 : Nat) "ChangePlacesModel" "deep" "I") ∈ qx_tbl := qx_t6 171 rfl rfl
set_option maxRecDepth 100000 in
theorem t_1372 : (Jvm.Cond.fieldLink "ChangePlacesModel" (280 : Nat) "ChangePlacesModel" "lines" "I") ∈ qx_tbl := qx_t6 172 rfl rfl
set_option maxRecDepth 100000 in
theorem t_1373 : (Jvm.Cond.fieldLink "ChangePlacesModel" (29 : Nat) "ChangePlacesModel" "open" "[I") ∈ qx_tbl := qx_t6 173 rfl rfl
set_option maxRecDepth 100000 in
theorem t_1374 : (Jvm.Cond.fieldLink "ChangePlacesModel" (185 : Nat) "ChangePlacesModel" "opened" "I") ∈ qx_tbl := qx_t6 174 rfl rfl
set_option maxRecDepth 100000 in
theorem t_1375 : (Jvm.Cond.fieldLink "ChangePlacesModel" (32 : Nat) "ChangePlacesModel" "stack" "[J") ∈ qx_tbl := qx_t6 175 rfl rfl
set_option maxRecDepth 100000 in
theorem t_1376 : (Jvm.Cond.fieldLink "ChangePlacesModel" (298 : Nat) "ChangePlacesModel" "top" "I") ∈ qx_tbl := qx_t6 176 rfl rfl
set_option maxRecDepth 100000 in
theorem t_1377 : (Jvm.Cond.fieldLink "ChangePlacesModel" (36 : Nat) "ChangePlacesModel" "word" "[J") ∈ qx_tbl := qx_t6 177 rfl rfl
set_option maxRecDepth 100000 in
theorem t_1378 : (Jvm.Cond.fieldLink "ChangePlacesModel" (39 : Nat) "ChangePlacesModel" "said" "[I") ∈ qx_tbl := qx_t6 178 rfl rfl
set_option maxRecDepth 100000 in
theorem t_1379 : (Jvm.Cond.fieldLink "ChangePlacesModel" (42 : Nat) "ChangePlacesModel" "liar" "I") ∈ qx_tbl := qx_t6 179 rfl rfl
set_option maxRecDepth 100000 in
theorem t_1380 : (Jvm.Cond.fieldLink "ChangePlacesModel" (338 : Nat) "ChangePlacesModel" "said999" "I") ∈ qx_tbl := qx_t6 180 rfl rfl
set_option maxRecDepth 100000 in
theorem t_1381 : (Jvm.Cond.fieldLink "ChangePlacesModel" (46 : Nat) "ChangePlacesModel" "ring" "[I") ∈ qx_tbl := qx_t6 181 rfl rfl
set_option maxRecDepth 100000 in
theorem t_1382 : (Jvm.Cond.fieldLink "ChangePlacesModel" (374 : Nat) "ChangePlacesModel" "ringMany" "I") ∈ qx_tbl := qx_t6 182 rfl rfl
set_option maxRecDepth 100000 in
theorem t_1383 : (Jvm.Cond.fieldLink "ChangePlacesModel" (49 : Nat) "ChangePlacesModel" "debtRow" "[I") ∈ qx_tbl := qx_t6 183 rfl rfl
set_option maxRecDepth 100000 in
theorem t_1384 : (Jvm.Cond.fieldLink "ChangePlacesModel" (52 : Nat) "ChangePlacesModel" "keptAt" "[I") ∈ qx_tbl := qx_t6 184 rfl rfl
set_option maxRecDepth 100000 in
theorem t_1385 : (Jvm.Cond.fieldLink "ChangePlacesModel" (408 : Nat) "ChangePlacesModel" "judgedLaw" "I") ∈ qx_tbl := qx_t6 185 rfl rfl
set_option maxRecDepth 100000 in
theorem t_1386 : (Jvm.Cond.fieldLink "ChangePlacesModel" (55 : Nat) "ChangePlacesModel" "dayOf" "[I") ∈ qx_tbl := qx_t6 186 rfl rfl
set_option maxRecDepth 100000 in
theorem t_1387 : (Jvm.Cond.fieldLink "ChangePlacesModel" (58 : Nat) "ChangePlacesModel" "canTake" "[Z") ∈ qx_tbl := qx_t6 187 rfl rfl
set_option maxRecDepth 100000 in
theorem t_1388 : (Jvm.Cond.fieldLink "ChangePlacesModel" (62 : Nat) "ChangePlacesModel" "gainOf" "[I") ∈ qx_tbl := qx_t6 188 rfl rfl
set_option maxRecDepth 100000 in
theorem t_1389 : (Jvm.Cond.fieldLink "ChangePlacesModel" (65 : Nat) "ChangePlacesModel" "gain" "[I") ∈ qx_tbl := qx_t6 189 rfl rfl
set_option maxRecDepth 100000 in
theorem t_1390 : (Jvm.Cond.fieldLink "ChangePlacesModel" (68 : Nat) "ChangePlacesModel" "many" "[I") ∈ qx_tbl := qx_t6 190 rfl rfl
set_option maxRecDepth 100000 in
theorem t_1391 : (Jvm.Cond.fieldLink "ChangePlacesModel" (71 : Nat) "ChangePlacesModel" "choice" "[I") ∈ qx_tbl := qx_t6 191 rfl rfl
set_option maxRecDepth 100000 in
theorem t_1392 : (Jvm.Cond.fieldLink "ChangePlacesModel" (434 : Nat) "ChangePlacesModel" "bestGain" "I") ∈ qx_tbl := qx_t6 192 rfl rfl
set_option maxRecDepth 100000 in
theorem t_1393 : (Jvm.Cond.fieldLink "ChangePlacesModel" (437 : Nat) "ChangePlacesModel" "bestMany" "I") ∈ qx_tbl := qx_t6 193 rfl rfl
set_option maxRecDepth 100000 in
theorem t_1394 : (Jvm.Cond.fieldLink "ChangePlacesModel" (440 : Nat) "ChangePlacesModel" "bestRing" "I") ∈ qx_tbl := qx_t6 194 rfl rfl
set_option maxRecDepth 100000 in
theorem t_1395 : (Jvm.Cond.fieldLink "ChangePlacesModel" (74 : Nat) "ChangePlacesModel" "takesOf" "[I") ∈ qx_tbl := qx_t6 195 rfl rfl
set_option maxRecDepth 100000 in
theorem t_1396 : (Jvm.Cond.fieldLink "ChangePlacesModel" (77 : Nat) "ChangePlacesModel" "points" "[I") ∈ qx_tbl := qx_t6 196 rfl rfl
set_option maxRecDepth 100000 in
theorem t_1397 : (Jvm.Cond.fieldLink "ChangePlacesModel" (80 : Nat) "ChangePlacesModel" "situation" "[I") ∈ qx_tbl := qx_t6 197 rfl rfl
set_option maxRecDepth 100000 in
theorem t_1398 : (Jvm.Cond.fieldLink "ChangePlacesModel" (83 : Nat) "ChangePlacesModel" "cameFrom" "[I") ∈ qx_tbl := qx_t6 198 rfl rfl
set_option maxRecDepth 100000 in
theorem t_1399 : (Jvm.Cond.fieldLink "ChangePlacesModel" (86 : Nat) "ChangePlacesModel" "cameBy" "[I") ∈ qx_tbl := qx_t6 199 rfl rfl
set_option maxRecDepth 100000 in
theorem t_1400 : (Jvm.Cond.fieldLink "ChangePlacesModel" (89 : Nat) "ChangePlacesModel" "level" "[I") ∈ qx_tbl := qx_t6 200 rfl rfl
set_option maxRecDepth 100000 in
theorem t_1401 : (Jvm.Cond.fieldLink "ChangePlacesModel" (92 : Nat) "ChangePlacesModel" "wayMany" "[I") ∈ qx_tbl := qx_t6 201 rfl rfl
set_option maxRecDepth 100000 in
theorem t_1402 : (Jvm.Cond.fieldLink "ChangePlacesModel" (95 : Nat) "ChangePlacesModel" "slot" "[I") ∈ qx_tbl := qx_t6 202 rfl rfl
set_option maxRecDepth 100000 in
theorem t_1403 : (Jvm.Cond.fieldLink "ChangePlacesModel" (486 : Nat) "ChangePlacesModel" "situations" "I") ∈ qx_tbl := qx_t6 203 rfl rfl
set_option maxRecDepth 100000 in
theorem t_1404 : (Jvm.Cond.fieldLink "ChangePlacesModel" (516 : Nat) "ChangePlacesModel" "firstFound" "I") ∈ qx_tbl := qx_t6 204 rfl rfl
set_option maxRecDepth 100000 in
theorem t_1405 : (Jvm.Cond.fieldLink "ChangePlacesModel" (510 : Nat) "ChangePlacesModel" "foundMany" "I") ∈ qx_tbl := qx_t6 205 rfl rfl
set_option maxRecDepth 100000 in
theorem t_1406 : (Jvm.Cond.fieldLink "ChangePlacesModel" (98 : Nat) "ChangePlacesModel" "servedBy" "[I") ∈ qx_tbl := qx_t6 206 rfl rfl
set_option maxRecDepth 100000 in
theorem t_1407 : (Jvm.Cond.fieldLink "ChangePlacesModel" (101 : Nat) "ChangePlacesModel" "kept" "[I") ∈ qx_tbl := qx_t6 207 rfl rfl
set_option maxRecDepth 100000 in
theorem t_1408 : (Jvm.Cond.fieldLink "ChangePlacesModel" (545 : Nat) "ChangePlacesModel" "drawX" "J") ∈ qx_tbl := qx_t6 208 rfl rfl
set_option maxRecDepth 100000 in
theorem t_1409 : (Jvm.Cond.fieldLink "ChangePlacesModel" (104 : Nat) "ChangePlacesModel" "images" "[I") ∈ qx_tbl := qx_t6 209 rfl rfl
set_option maxRecDepth 100000 in
theorem t_1410 : (Jvm.Cond.fieldLink "ChangePlacesModel" (107 : Nat) "ChangePlacesModel" "isMade" "[Z") ∈ qx_tbl := qx_t6 210 rfl rfl
set_option maxRecDepth 100000 in
theorem t_1518 : (Jvm.Cond.methodLink "ChangePlacesLaw" (17 : Nat) ({ cls := "ChangePlacesModel", name := "feed", desc := "(IIIII)I" } : Jvm.MethodName)) ∈ qx_tbl := qx_t7 78 rfl rfl
set_option maxRecDepth 100000 in
theorem t_1519 : (Jvm.Cond.instanceMethod ({ cls := "ChangePlacesModel", name := "feed", desc := "(IIIII)I" } : Jvm.MethodName)) ∈ qx_tbl := qx_t7 79 rfl rfl
set_option maxRecDepth 100000 in
theorem t_1520 : (Jvm.Cond.selects "ChangePlacesModel" ({ cls := "ChangePlacesModel", name := "feed", desc := "(IIIII)I" } : Jvm.MethodName) ({ cls := "ChangePlacesModel", name := "feed", desc := "(IIIII)I" } : Jvm.MethodName)) ∈ qx_tbl := qx_t7 80 rfl rfl
set_option maxRecDepth 100000 in
theorem t_1521 : (Jvm.Cond.code ({ cls := "ChangePlacesModel", name := "feed", desc := "(IIIII)I" } : Jvm.MethodName) prog_14_method_6_code (6 : Nat) (Option.some Jvm.ClassFile.FieldType.int)) ∈ qx_tbl := qx_t7 81 rfl rfl
set_option maxRecDepth 100000 in
theorem t_1522 : (Jvm.Cond.methodLink "ChangePlacesModel" (113 : Nat) ({ cls := "ChangePlacesModel", name := "four", desc := "(I)V" } : Jvm.MethodName)) ∈ qx_tbl := qx_t7 82 rfl rfl
set_option maxRecDepth 100000 in
theorem t_1524 : (Jvm.Cond.instanceMethod ({ cls := "ChangePlacesModel", name := "four", desc := "(I)V" } : Jvm.MethodName)) ∈ qx_tbl := qx_t7 84 rfl rfl
set_option maxRecDepth 100000 in
theorem t_1525 : (Jvm.Cond.code ({ cls := "ChangePlacesModel", name := "four", desc := "(I)V" } : Jvm.MethodName) prog_14_method_5_code (3 : Nat) (Option.none : Option Jvm.ClassFile.FieldType)) ∈ qx_tbl := qx_t7 85 rfl rfl
set_option maxRecDepth 100000 in
theorem t_1526 : (Jvm.Cond.methodLink "ChangePlacesLaw" (22 : Nat) ({ cls := "ChangePlacesModel", name := "end", desc := "(I)I" } : Jvm.MethodName)) ∈ qx_tbl := qx_t7 86 rfl rfl
set_option maxRecDepth 100000 in
theorem t_1527 : (Jvm.Cond.instanceMethod ({ cls := "ChangePlacesModel", name := "end", desc := "(I)I" } : Jvm.MethodName)) ∈ qx_tbl := qx_t7 87 rfl rfl
set_option maxRecDepth 100000 in
theorem t_1528 : (Jvm.Cond.selects "ChangePlacesModel" ({ cls := "ChangePlacesModel", name := "end", desc := "(I)I" } : Jvm.MethodName) ({ cls := "ChangePlacesModel", name := "end", desc := "(I)I" } : Jvm.MethodName)) ∈ qx_tbl := qx_t7 88 rfl rfl
set_option maxRecDepth 100000 in
theorem t_1529 : (Jvm.Cond.code ({ cls := "ChangePlacesModel", name := "end", desc := "(I)I" } : Jvm.MethodName) prog_14_method_7_code (2 : Nat) (Option.some Jvm.ClassFile.FieldType.int)) ∈ qx_tbl := qx_t7 89 rfl rfl
set_option maxRecDepth 100000 in
theorem t_1530 : (Jvm.Cond.methodLink "ChangePlacesLaw" (31 : Nat) ({ cls := "ChangePlacesModel", name := "rule", desc := "()I" } : Jvm.MethodName)) ∈ qx_tbl := qx_t7 90 rfl rfl
set_option maxRecDepth 100000 in
theorem t_1531 : (Jvm.Cond.instanceMethod ({ cls := "ChangePlacesModel", name := "rule", desc := "()I" } : Jvm.MethodName)) ∈ qx_tbl := qx_t7 91 rfl rfl
set_option maxRecDepth 100000 in
theorem t_1532 : (Jvm.Cond.selects "ChangePlacesModel" ({ cls := "ChangePlacesModel", name := "rule", desc := "()I" } : Jvm.MethodName) ({ cls := "ChangePlacesModel", name := "rule", desc := "()I" } : Jvm.MethodName)) ∈ qx_tbl := qx_t7 92 rfl rfl
set_option maxRecDepth 100000 in
theorem t_1533 : (Jvm.Cond.code ({ cls := "ChangePlacesModel", name := "rule", desc := "()I" } : Jvm.MethodName) prog_14_method_41_code (1 : Nat) (Option.some Jvm.ClassFile.FieldType.int)) ∈ qx_tbl := qx_t7 93 rfl rfl
set_option maxRecDepth 100000 in
theorem t_1534 : (Jvm.Cond.methodLink "ChangePlacesModel" (295 : Nat) ({ cls := "ChangePlacesModel", name := "readsAll", desc := "()Z" } : Jvm.MethodName)) ∈ qx_tbl := qx_t7 94 rfl rfl
set_option maxRecDepth 100000 in
theorem t_1536 : (Jvm.Cond.instanceMethod ({ cls := "ChangePlacesModel", name := "readsAll", desc := "()Z" } : Jvm.MethodName)) ∈ qx_tbl := qx_t7 96 rfl rfl
set_option maxRecDepth 100000 in
theorem t_1537 : (Jvm.Cond.code ({ cls := "ChangePlacesModel", name := "readsAll", desc := "()Z" } : Jvm.MethodName) prog_14_method_40_code (2 : Nat) (Option.some Jvm.ClassFile.FieldType.boolean)) ∈ qx_tbl := qx_t7 97 rfl rfl
set_option maxRecDepth 100000 in
theorem t_1538 : (Jvm.Cond.methodLink "ChangePlacesModel" (289 : Nat) ({ cls := "ChangePlacesModel", name := "clauseHere", desc := "()Z" } : Jvm.MethodName)) ∈ qx_tbl := qx_t7 98 rfl rfl
set_option maxRecDepth 100000 in
theorem t_1540 : (Jvm.Cond.instanceMethod ({ cls := "ChangePlacesModel", name := "clauseHere", desc := "()Z" } : Jvm.MethodName)) ∈ qx_tbl := qx_t7 100 rfl rfl
set_option maxRecDepth 100000 in
theorem t_1541 : (Jvm.Cond.code ({ cls := "ChangePlacesModel", name := "clauseHere", desc := "()Z" } : Jvm.MethodName) prog_14_method_39_code (3 : Nat) (Option.some Jvm.ClassFile.FieldType.boolean)) ∈ qx_tbl := qx_t7 101 rfl rfl
set_option maxRecDepth 100000 in
theorem t_1542 : (Jvm.Cond.methodLink "ChangePlacesModel" (123 : Nat) ({ cls := "ChangePlacesModel", name := "see", desc := "()I" } : Jvm.MethodName)) ∈ qx_tbl := qx_t7 102 rfl rfl
set_option maxRecDepth 100000 in
theorem t_1544 : (Jvm.Cond.instanceMethod ({ cls := "ChangePlacesModel", name := "see", desc := "()I" } : Jvm.MethodName)) ∈ qx_tbl := qx_t7 104 rfl rfl
set_option maxRecDepth 100000 in
theorem t_1545 : (Jvm.Cond.code ({ cls := "ChangePlacesModel", name := "see", desc := "()I" } : Jvm.MethodName) prog_14_method_9_code (1 : Nat) (Option.some Jvm.ClassFile.FieldType.int)) ∈ qx_tbl := qx_t7 105 rfl rfl
set_option maxRecDepth 100000 in
theorem t_1546 : (Jvm.Cond.methodLink "ChangePlacesModel" (273 : Nat) ({ cls := "ChangePlacesModel", name := "isCountryWord", desc := "()Z" } : Jvm.MethodName)) ∈ qx_tbl := qx_t7 106 rfl rfl
set_option maxRecDepth 100000 in
theorem t_1548 : (Jvm.Cond.instanceMethod ({ cls := "ChangePlacesModel", name := "isCountryWord", desc := "()Z" } : Jvm.MethodName)) ∈ qx_tbl := qx_t7 108 rfl rfl
set_option maxRecDepth 100000 in
theorem t_1549 : (Jvm.Cond.code ({ cls := "ChangePlacesModel", name := "isCountryWord", desc := "()Z" } : Jvm.MethodName) prog_14_method_38_code (1 : Nat) (Option.some Jvm.ClassFile.FieldType.boolean)) ∈ qx_tbl := qx_t7 109 rfl rfl
set_option maxRecDepth 100000 in
theorem t_1550 : (Jvm.Cond.constantLong "ChangePlacesModel" (252 : Nat) (123610792682867 : Int64)) ∈ qx_tbl := qx_t7 110 rfl rfl
set_option maxRecDepth 100000 in
theorem t_1551 : (Jvm.Cond.methodLink "ChangePlacesModel" (131 : Nat) ({ cls := "ChangePlacesModel", name := "isWord", desc := "(J)Z" } : Jvm.MethodName)) ∈ qx_tbl := qx_t7 111 rfl rfl
set_option maxRecDepth 100000 in
theorem t_1553 : (Jvm.Cond.instanceMethod ({ cls := "ChangePlacesModel", name := "isWord", desc := "(J)Z" } : Jvm.MethodName)) ∈ qx_tbl := qx_t7 113 rfl rfl
set_option maxRecDepth 100000 in
theorem t_1554 : (Jvm.Cond.code ({ cls := "ChangePlacesModel", name := "isWord", desc := "(J)Z" } : Jvm.MethodName) prog_14_method_12_code (6 : Nat) (Option.some Jvm.ClassFile.FieldType.boolean)) ∈ qx_tbl := qx_t7 114 rfl rfl
set_option maxRecDepth 100000 in
theorem t_1555 : (Jvm.Cond.methodLink "ChangePlacesModel" (127 : Nat) ({ cls := "ChangePlacesModel", name := "isLetter", desc := "(I)Z" } : Jvm.MethodName)) ∈ qx_tbl := qx_t7 115 rfl rfl
set_option maxRecDepth 100000 in
theorem t_1557 : (Jvm.Cond.instanceMethod ({ cls := "ChangePlacesModel", name := "isLetter", desc := "(I)Z" } : Jvm.MethodName)) ∈ qx_tbl := qx_t7 117 rfl rfl
set_option maxRecDepth 100000 in
theorem t_1558 : (Jvm.Cond.code ({ cls := "ChangePlacesModel", name := "isLetter", desc := "(I)Z" } : Jvm.MethodName) prog_14_method_11_code (2 : Nat) (Option.some Jvm.ClassFile.FieldType.boolean)) ∈ qx_tbl := qx_t7 118 rfl rfl
set_option maxRecDepth 100000 in
theorem t_1559 : (Jvm.Cond.constantLong "ChangePlacesModel" (152 : Nat) (123581014175598 : Int64)) ∈ qx_tbl := qx_t7 119 rfl rfl
set_option maxRecDepth 100000 in
theorem t_1560 : (Jvm.Cond.constantLong "ChangePlacesModel" (162 : Nat) (2003399528 : Int64)) ∈ qx_tbl := qx_t7 120 rfl rfl
set_option maxRecDepth 100000 in
theorem t_1561 : (Jvm.Cond.constantLong "ChangePlacesModel" (263 : Nat) (422608528232 : Int64)) ∈ qx_tbl := qx_t7 121 rfl rfl
set_option maxRecDepth 100000 in
theorem t_1562 : (Jvm.Cond.constantLong "ChangePlacesModel" (271 : Nat) (1667329132 : Int64)) ∈ qx_tbl := qx_t7 122 rfl rfl
set_option maxRecDepth 100000 in
theorem t_1563 : (Jvm.Cond.constantLong "ChangePlacesModel" (276 : Nat) (6447474 : Int64)) ∈ qx_tbl := qx_t7 123 rfl rfl
set_option maxRecDepth 100000 in
theorem t_1564 : (Jvm.Cond.constantLong "ChangePlacesModel" (278 : Nat) (2002873972 : Int64)) ∈ qx_tbl := qx_t7 124 rfl rfl
set_option maxRecDepth 100000 in
theorem t_1565 : (Jvm.Cond.methodLink "ChangePlacesModel" (141 : Nat) ({ cls := "ChangePlacesModel", name := "fails", desc := "(II)Z" } : Jvm.MethodName)) ∈ qx_tbl := qx_t7 125 rfl rfl
set_option maxRecDepth 100000 in
theorem t_1567 : (Jvm.Cond.instanceMethod ({ cls := "ChangePlacesModel", name := "fails", desc := "(II)Z" } : Jvm.MethodName)) ∈ qx_tbl := qx_t7 127 rfl rfl
set_option maxRecDepth 100000 in
theorem t_1568 : (Jvm.Cond.code ({ cls := "ChangePlacesModel", name := "fails", desc := "(II)Z" } : Jvm.MethodName) prog_14_method_8_code (3 : Nat) (Option.some Jvm.ClassFile.FieldType.boolean)) ∈ qx_tbl := qx_t7 128 rfl rfl
set_option maxRecDepth 100000 in
theorem t_1569 : (Jvm.Cond.methodLink "ChangePlacesModel" (283 : Nat) ({ cls := "ChangePlacesModel", name := "countryLineHere", desc := "(I)Z" } : Jvm.MethodName)) ∈ qx_tbl := qx_t7 129 rfl rfl
set_option maxRecDepth 100000 in
theorem t_1571 : (Jvm.Cond.instanceMethod ({ cls := "ChangePlacesModel", name := "countryLineHere", desc := "(I)Z" } : Jvm.MethodName)) ∈ qx_tbl := qx_t7 131 rfl rfl
set_option maxRecDepth 100000 in
theorem t_1572 : (Jvm.Cond.code ({ cls := "ChangePlacesModel", name := "countryLineHere", desc := "(I)Z" } : Jvm.MethodName) prog_14_method_37_code (2 : Nat) (Option.some Jvm.ClassFile.FieldType.boolean)) ∈ qx_tbl := qx_t7 132 rfl rfl
set_option maxRecDepth 100000 in
theorem t_1573 : (Jvm.Cond.methodLink "ChangePlacesModel" (254 : Nat) ({ cls := "ChangePlacesModel", name := "arePlacesHere", desc := "(I)Z" } : Jvm.MethodName)) ∈ qx_tbl := qx_t7 133 rfl rfl
set_option maxRecDepth 100000 in
theorem t_1575 : (Jvm.Cond.instanceMethod ({ cls := "ChangePlacesModel", name := "arePlacesHere", desc := "(I)Z" } : Jvm.MethodName)) ∈ qx_tbl := qx_t7 135 rfl rfl
set_option maxRecDepth 100000 in
theorem t_1576 : (Jvm.Cond.code ({ cls := "ChangePlacesModel", name := "arePlacesHere", desc := "(I)Z" } : Jvm.MethodName) prog_14_method_32_code (2 : Nat) (Option.some Jvm.ClassFile.FieldType.boolean)) ∈ qx_tbl := qx_t7 136 rfl rfl
set_option maxRecDepth 100000 in
theorem t_1577 : (Jvm.Cond.methodLink "ChangePlacesModel" (135 : Nat) ({ cls := "ChangePlacesModel", name := "passWord", desc := "()V" } : Jvm.MethodName)) ∈ qx_tbl := qx_t7 137 rfl rfl
set_option maxRecDepth 100000 in
theorem t_1579 : (Jvm.Cond.instanceMethod ({ cls := "ChangePlacesModel", name := "passWord", desc := "()V" } : Jvm.MethodName)) ∈ qx_tbl := qx_t7 139 rfl rfl
set_option maxRecDepth 100000 in
theorem t_1580 : (Jvm.Cond.code ({ cls := "ChangePlacesModel", name := "passWord", desc := "()V" } : Jvm.MethodName) prog_14_method_13_code (1 : Nat) (Option.none : Option Jvm.ClassFile.FieldType)) ∈ qx_tbl := qx_t7 140 rfl rfl
set_option maxRecDepth 100000 in
theorem t_1581 : (Jvm.Cond.methodLink "ChangePlacesModel" (248 : Nat) ({ cls := "ChangePlacesModel", name := "cellHere", desc := "(III)Z" } : Jvm.MethodName)) ∈ qx_tbl := qx_t7 141 rfl rfl
set_option maxRecDepth 100000 in
theorem t_1583 : (Jvm.Cond.instanceMethod ({ cls := "ChangePlacesModel", name := "cellHere", desc := "(III)Z" } : Jvm.MethodName)) ∈ qx_tbl := qx_t7 143 rfl rfl
set_option maxRecDepth 100000 in
theorem t_1584 : (Jvm.Cond.code ({ cls := "ChangePlacesModel", name := "cellHere", desc := "(III)Z" } : Jvm.MethodName) prog_14_method_31_code (4 : Nat) (Option.some Jvm.ClassFile.FieldType.boolean)) ∈ qx_tbl := qx_t7 144 rfl rfl
set_option maxRecDepth 100000 in
theorem t_1585 : (Jvm.Cond.methodLink "ChangePlacesModel" (197 : Nat) ({ cls := "ChangePlacesModel", name := "numberHere", desc := "(II)Z" } : Jvm.MethodName)) ∈ qx_tbl := qx_t7 145 rfl rfl
set_option maxRecDepth 100000 in
theorem t_1587 : (Jvm.Cond.instanceMethod ({ cls := "ChangePlacesModel", name := "numberHere", desc := "(II)Z" } : Jvm.MethodName)) ∈ qx_tbl := qx_t7 147 rfl rfl
set_option maxRecDepth 100000 in
theorem t_1588 : (Jvm.Cond.code ({ cls := "ChangePlacesModel", name := "numberHere", desc := "(II)Z" } : Jvm.MethodName) prog_14_method_15_code (5 : Nat) (Option.some Jvm.ClassFile.FieldType.boolean)) ∈ qx_tbl := qx_t7 148 rfl rfl
set_option maxRecDepth 100000 in
theorem t_1589 : (Jvm.Cond.methodLink "ChangePlacesModel" (138 : Nat) ({ cls := "ChangePlacesModel", name := "isDigit", desc := "(I)Z" } : Jvm.MethodName)) ∈ qx_tbl := qx_t7 149 rfl rfl
set_option maxRecDepth 100000 in
theorem t_1591 : (Jvm.Cond.instanceMethod ({ cls := "ChangePlacesModel", name := "isDigit", desc := "(I)Z" } : Jvm.MethodName)) ∈ qx_tbl := qx_t7 151 rfl rfl
set_option maxRecDepth 100000 in
theorem t_1592 : (Jvm.Cond.code ({ cls := "ChangePlacesModel", name := "isDigit", desc := "(I)Z" } : Jvm.MethodName) prog_14_method_10_code (2 : Nat) (Option.some Jvm.ClassFile.FieldType.boolean)) ∈ qx_tbl := qx_t7 152 rfl rfl
set_option maxRecDepth 100000 in
theorem t_1593 : (Jvm.Cond.methodLink "ChangePlacesModel" (148 : Nat) ({ cls := "ChangePlacesModel", name := "in", desc := "(JJJ)Z" } : Jvm.MethodName)) ∈ qx_tbl := qx_t7 153 rfl rfl
set_option maxRecDepth 100000 in
theorem t_1594 : (Jvm.Cond.static ({ cls := "ChangePlacesModel", name := "in", desc := "(JJJ)Z" } : Jvm.MethodName)) ∈ qx_tbl := qx_t7 154 rfl rfl
set_option maxRecDepth 100000 in
theorem t_1595 : (Jvm.Cond.code ({ cls := "ChangePlacesModel", name := "in", desc := "(JJJ)Z" } : Jvm.MethodName) prog_14_method_2_code (6 : Nat) (Option.some Jvm.ClassFile.FieldType.boolean)) ∈ qx_tbl := qx_t7 155 rfl rfl
set_option maxRecDepth 100000 in
theorem t_1596 : (Jvm.Cond.methodLink "ChangePlacesModel" (257 : Nat) ({ cls := "ChangePlacesModel", name := "isPersonHere", desc := "(I)Z" } : Jvm.MethodName)) ∈ qx_tbl := qx_t7 156 rfl rfl
set_option maxRecDepth 100000 in
theorem t_1598 : (Jvm.Cond.instanceMethod ({ cls := "ChangePlacesModel", name := "isPersonHere", desc := "(I)Z" } : Jvm.MethodName)) ∈ qx_tbl := qx_t7 158 rfl rfl
set_option maxRecDepth 100000 in
theorem t_1599 : (Jvm.Cond.code ({ cls := "ChangePlacesModel", name := "isPersonHere", desc := "(I)Z" } : Jvm.MethodName) prog_14_method_33_code (4 : Nat) (Option.some Jvm.ClassFile.FieldType.boolean)) ∈ qx_tbl := qx_t7 159 rfl rfl
set_option maxRecDepth 100000 in
theorem t_1600 : (Jvm.Cond.methodLink "ChangePlacesModel" (260 : Nat) ({ cls := "ChangePlacesModel", name := "isWishHere", desc := "()Z" } : Jvm.MethodName)) ∈ qx_tbl := qx_t7 160 rfl rfl
set_option maxRecDepth 100000 in
theorem t_1602 : (Jvm.Cond.instanceMethod ({ cls := "ChangePlacesModel", name := "isWishHere", desc := "()Z" } : Jvm.MethodName)) ∈ qx_tbl := qx_t7 162 rfl rfl
set_option maxRecDepth 100000 in
theorem t_1603 : (Jvm.Cond.code ({ cls := "ChangePlacesModel", name := "isWishHere", desc := "()Z" } : Jvm.MethodName) prog_14_method_34_code (2 : Nat) (Option.some Jvm.ClassFile.FieldType.boolean)) ∈ qx_tbl := qx_t7 163 rfl rfl
set_option maxRecDepth 100000 in
theorem t_1604 : (Jvm.Cond.methodLink "ChangePlacesModel" (265 : Nat) ({ cls := "ChangePlacesModel", name := "isBenchHere", desc := "()Z" } : Jvm.MethodName)) ∈ qx_tbl := qx_t7 164 rfl rfl
set_option maxRecDepth 100000 in
theorem t_1606 : (Jvm.Cond.instanceMethod ({ cls := "ChangePlacesModel", name := "isBenchHere", desc := "()Z" } : Jvm.MethodName)) ∈ qx_tbl := qx_t7 166 rfl rfl
set_option maxRecDepth 100000 in
theorem t_1607 : (Jvm.Cond.code ({ cls := "ChangePlacesModel", name := "isBenchHere", desc := "()Z" } : Jvm.MethodName) prog_14_method_35_code (1 : Nat) (Option.some Jvm.ClassFile.FieldType.boolean)) ∈ qx_tbl := qx_t7 167 rfl rfl
set_option maxRecDepth 100000 in
theorem t_1608 : (Jvm.Cond.methodLink "ChangePlacesModel" (268 : Nat) ({ cls := "ChangePlacesModel", name := "isCallHere", desc := "(I)Z" } : Jvm.MethodName)) ∈ qx_tbl := qx_t7 168 rfl rfl
set_option maxRecDepth 100000 in
theorem t_1610 : (Jvm.Cond.instanceMethod ({ cls := "ChangePlacesModel", name := "isCallHere", desc := "(I)Z" } : Jvm.MethodName)) ∈ qx_tbl := qx_t7 170 rfl rfl
set_option maxRecDepth 100000 in
theorem t_1611 : (Jvm.Cond.code ({ cls := "ChangePlacesModel", name := "isCallHere", desc := "(I)Z" } : Jvm.MethodName) prog_14_method_36_code (2 : Nat) (Option.some Jvm.ClassFile.FieldType.boolean)) ∈ qx_tbl := qx_t7 171 rfl rfl
set_option maxRecDepth 100000 in
theorem t_1612 : (Jvm.Cond.methodLink "ChangePlacesModel" (286 : Nat) ({ cls := "ChangePlacesModel", name := "isDoingHere", desc := "(I)Z" } : Jvm.MethodName)) ∈ qx_tbl := qx_t7 172 rfl rfl
set_option maxRecDepth 100000 in
theorem t_1614 : (Jvm.Cond.instanceMethod ({ cls := "ChangePlacesModel", name := "isDoingHere", desc := "(I)Z" } : Jvm.MethodName)) ∈ qx_tbl := qx_t7 174 rfl rfl
set_option maxRecDepth 100000 in
theorem t_1615 : (Jvm.Cond.code ({ cls := "ChangePlacesModel", name := "isDoingHere", desc := "(I)Z" } : Jvm.MethodName) prog_14_method_30_code (3 : Nat) (Option.some Jvm.ClassFile.FieldType.boolean)) ∈ qx_tbl := qx_t7 175 rfl rfl
set_option maxRecDepth 100000 in
theorem t_1616 : (Jvm.Cond.methodLink "ChangePlacesModel" (213 : Nat) ({ cls := "ChangePlacesModel", name := "sum", desc := "()Z" } : Jvm.MethodName)) ∈ qx_tbl := qx_t7 176 rfl rfl
set_option maxRecDepth 100000 in
theorem t_1618 : (Jvm.Cond.instanceMethod ({ cls := "ChangePlacesModel", name := "sum", desc := "()Z" } : Jvm.MethodName)) ∈ qx_tbl := qx_t7 178 rfl rfl
set_option maxRecDepth 100000 in
theorem t_1619 : (Jvm.Cond.code ({ cls := "ChangePlacesModel", name := "sum", desc := "()Z" } : Jvm.MethodName) prog_14_method_24_code (2 : Nat) (Option.some Jvm.ClassFile.FieldType.boolean)) ∈ qx_tbl := qx_t7 179 rfl rfl
set_option maxRecDepth 100000 in
theorem t_1620 : (Jvm.Cond.methodLink "ChangePlacesModel" (210 : Nat) ({ cls := "ChangePlacesModel", name := "term", desc := "()Z" } : Jvm.MethodName)) ∈ qx_tbl := qx_t7 180 rfl rfl
set_option maxRecDepth 100000 in
theorem t_1622 : (Jvm.Cond.instanceMethod ({ cls := "ChangePlacesModel", name := "term", desc := "()Z" } : Jvm.MethodName)) ∈ qx_tbl := qx_t7 182 rfl rfl
set_option maxRecDepth 100000 in
theorem t_1623 : (Jvm.Cond.code ({ cls := "ChangePlacesModel", name := "term", desc := "()Z" } : Jvm.MethodName) prog_14_method_23_code (2 : Nat) (Option.some Jvm.ClassFile.FieldType.boolean)) ∈ qx_tbl := qx_t7 183 rfl rfl
set_option maxRecDepth 100000 in
theorem t_1624 : (Jvm.Cond.methodLink "ChangePlacesModel" (206 : Nat) ({ cls := "ChangePlacesModel", name := "value", desc := "()Z" } : Jvm.MethodName)) ∈ qx_tbl := qx_t7 184 rfl rfl
set_option maxRecDepth 100000 in
theorem t_1626 : (Jvm.Cond.instanceMethod ({ cls := "ChangePlacesModel", name := "value", desc := "()Z" } : Jvm.MethodName)) ∈ qx_tbl := qx_t7 186 rfl rfl
set_option maxRecDepth 100000 in
theorem t_1627 : (Jvm.Cond.code ({ cls := "ChangePlacesModel", name := "value", desc := "()Z" } : Jvm.MethodName) prog_14_method_22_code (3 : Nat) (Option.some Jvm.ClassFile.FieldType.boolean)) ∈ qx_tbl := qx_t7 187 rfl rfl
set_option maxRecDepth 100000 in
theorem t_1628 : (Jvm.Cond.constant "ChangePlacesModel" (196 : Nat) (99999 : Int32)) ∈ qx_tbl := qx_t7 188 rfl rfl
set_option maxRecDepth 100000 in
theorem t_1629 : (Jvm.Cond.methodLink "ChangePlacesModel" (200 : Nat) ({ cls := "ChangePlacesModel", name := "makes", desc := "(I)Z" } : Jvm.MethodName)) ∈ qx_tbl := qx_t7 189 rfl rfl
set_option maxRecDepth 100000 in
theorem t_1631 : (Jvm.Cond.instanceMethod ({ cls := "ChangePlacesModel", name := "makes", desc := "(I)Z" } : Jvm.MethodName)) ∈ qx_tbl := qx_t7 191 rfl rfl
set_option maxRecDepth 100000 in
theorem t_1632 : (Jvm.Cond.code ({ cls := "ChangePlacesModel", name := "makes", desc := "(I)Z" } : Jvm.MethodName) prog_14_method_18_code (2 : Nat) (Option.some Jvm.ClassFile.FieldType.boolean)) ∈ qx_tbl := qx_t7 192 rfl rfl
set_option maxRecDepth 100000 in
theorem t_1633 : (Jvm.Cond.methodLink "ChangePlacesModel" (192 : Nat) ({ cls := "ChangePlacesModel", name := "puts", desc := "(II)V" } : Jvm.MethodName)) ∈ qx_tbl := qx_t7 193 rfl rfl
set_option maxRecDepth 100000 in
theorem t_1635 : (Jvm.Cond.instanceMethod ({ cls := "ChangePlacesModel", name := "puts", desc := "(II)V" } : Jvm.MethodName)) ∈ qx_tbl := qx_t7 195 rfl rfl
set_option maxRecDepth 100000 in
theorem t_1636 : (Jvm.Cond.code ({ cls := "ChangePlacesModel", name := "puts", desc := "(II)V" } : Jvm.MethodName) prog_14_method_17_code (3 : Nat) (Option.none : Option Jvm.ClassFile.FieldType)) ∈ qx_tbl := qx_t7 196 rfl rfl
set_option maxRecDepth 100000 in
theorem t_1637 : (Jvm.Cond.methodLink "ChangePlacesModel" (203 : Nat) ({ cls := "ChangePlacesModel", name := "wordHere", desc := "()I" } : Jvm.MethodName)) ∈ qx_tbl := qx_t7 197 rfl rfl
set_option maxRecDepth 100000 in
theorem t_1639 : (Jvm.Cond.instanceMethod ({ cls := "ChangePlacesModel", name := "wordHere", desc := "()I" } : Jvm.MethodName)) ∈ qx_tbl := qx_t7 199 rfl rfl
set_option maxRecDepth 100000 in
theorem t_1640 : (Jvm.Cond.code ({ cls := "ChangePlacesModel", name := "wordHere", desc := "()I" } : Jvm.MethodName) prog_14_method_16_code (1 : Nat) (Option.some Jvm.ClassFile.FieldType.int)) ∈ qx_tbl := qx_t7 200 rfl rfl
set_option maxRecDepth 100000 in
theorem t_1641 : (Jvm.Cond.constantLong "ChangePlacesModel" (154 : Nat) (131277443786868 : Int64)) ∈ qx_tbl := qx_t7 201 rfl rfl
set_option maxRecDepth 100000 in
theorem t_1642 : (Jvm.Cond.constantLong "ChangePlacesModel" (156 : Nat) (1752132965 : Int64)) ∈ qx_tbl := qx_t7 202 rfl rfl
set_option maxRecDepth 100000 in
theorem t_1643 : (Jvm.Cond.constantLong "ChangePlacesModel" (158 : Nat) (24948 : Int64)) ∈ qx_tbl := qx_t7 203 rfl rfl
set_option maxRecDepth 100000 in
theorem t_1644 : (Jvm.Cond.constantLong "ChangePlacesModel" (160 : Nat) (29807 : Int64)) ∈ qx_tbl := qx_t7 204 rfl rfl
set_option maxRecDepth 100000 in
theorem t_1645 : (Jvm.Cond.constantLong "ChangePlacesModel" (164 : Nat) (2003399784 : Int64)) ∈ qx_tbl := qx_t7 205 rfl rfl
set_option maxRecDepth 100000 in
theorem t_1646 : (Jvm.Cond.constantLong "ChangePlacesModel" (166 : Nat) (478694368626 : Int64)) ∈ qx_tbl := qx_t7 206 rfl rfl
set_option maxRecDepth 100000 in
theorem t_1647 : (Jvm.Cond.constantLong "ChangePlacesModel" (168 : Nat) (1919512167 : Int64)) ∈ qx_tbl := qx_t7 207 rfl rfl
set_option maxRecDepth 100000 in
theorem t_1648 : (Jvm.Cond.constantLong "ChangePlacesModel" (170 : Nat) (1870095731 : Int64)) ∈ qx_tbl := qx_t7 208 rfl rfl
set_option maxRecDepth 100000 in
theorem t_1649 : (Jvm.Cond.constantLong "ChangePlacesModel" (172 : Nat) (6578553 : Int64)) ∈ qx_tbl := qx_t7 209 rfl rfl
set_option maxRecDepth 100000 in
theorem t_1650 : (Jvm.Cond.constantLong "ChangePlacesModel" (174 : Nat) (470021465444 : Int64)) ∈ qx_tbl := qx_t7 210 rfl rfl
set_option maxRecDepth 100000 in
theorem t_1651 : (Jvm.Cond.constantLong "ChangePlacesModel" (240 : Nat) (26982 : Int64)) ∈ qx_tbl := qx_t7 211 rfl rfl
set_option maxRecDepth 100000 in
theorem t_1652 : (Jvm.Cond.methodLink "ChangePlacesModel" (242 : Nat) ({ cls := "ChangePlacesModel", name := "takesWord", desc := "(J)Z" } : Jvm.MethodName)) ∈ qx_tbl := qx_t7 212 rfl rfl
set_option maxRecDepth 100000 in
theorem t_1654 : (Jvm.Cond.instanceMethod ({ cls := "ChangePlacesModel", name := "takesWord", desc := "(J)Z" } : Jvm.MethodName)) ∈ qx_tbl := qx_t7 214 rfl rfl
set_option maxRecDepth 100000 in
theorem t_1655 : (Jvm.Cond.code ({ cls := "ChangePlacesModel", name := "takesWord", desc := "(J)Z" } : Jvm.MethodName) prog_14_method_14_code (3 : Nat) (Option.some Jvm.ClassFile.FieldType.boolean)) ∈ qx_tbl := qx_t7 215 rfl rfl
set_option maxRecDepth 100000 in
theorem t_1656 : (Jvm.Cond.methodLink "ChangePlacesModel" (245 : Nat) ({ cls := "ChangePlacesModel", name := "tested", desc := "()Z" } : Jvm.MethodName)) ∈ qx_tbl := qx_t7 216 rfl rfl
set_option maxRecDepth 100000 in
theorem t_1658 : (Jvm.Cond.instanceMethod ({ cls := "ChangePlacesModel", name := "tested", desc := "()Z" } : Jvm.MethodName)) ∈ qx_tbl := qx_t7 218 rfl rfl
set_option maxRecDepth 100000 in
theorem t_1659 : (Jvm.Cond.code ({ cls := "ChangePlacesModel", name := "tested", desc := "()Z" } : Jvm.MethodName) prog_14_method_29_code (3 : Nat) (Option.some Jvm.ClassFile.FieldType.boolean)) ∈ qx_tbl := qx_t7 219 rfl rfl
set_option maxRecDepth 100000 in
theorem t_1660 : (Jvm.Cond.methodLink "ChangePlacesModel" (230 : Nat) ({ cls := "ChangePlacesModel", name := "fact", desc := "()Z" } : Jvm.MethodName)) ∈ qx_tbl := qx_t7 220 rfl rfl
set_option maxRecDepth 100000 in
theorem t_1662 : (Jvm.Cond.instanceMethod ({ cls := "ChangePlacesModel", name := "fact", desc := "()Z" } : Jvm.MethodName)) ∈ qx_tbl := qx_t7 222 rfl rfl
set_option maxRecDepth 100000 in
theorem t_1663 : (Jvm.Cond.code ({ cls := "ChangePlacesModel", name := "fact", desc := "()Z" } : Jvm.MethodName) prog_14_method_26_code (3 : Nat) (Option.some Jvm.ClassFile.FieldType.boolean)) ∈ qx_tbl := qx_t7 223 rfl rfl
set_option maxRecDepth 100000 in
theorem t_1664 : (Jvm.Cond.constantLong "ChangePlacesModel" (216 : Nat) (7237492 : Int64)) ∈ qx_tbl := qx_t7 224 rfl rfl
set_option maxRecDepth 100000 in
theorem t_1665 : (Jvm.Cond.methodLink "ChangePlacesModel" (218 : Nat) ({ cls := "ChangePlacesModel", name := "opens", desc := "(I)Z" } : Jvm.MethodName)) ∈ qx_tbl := qx_t7 225 rfl rfl
set_option maxRecDepth 100000 in
theorem t_1667 : (Jvm.Cond.instanceMethod ({ cls := "ChangePlacesModel", name := "opens", desc := "(I)Z" } : Jvm.MethodName)) ∈ qx_tbl := qx_t7 227 rfl rfl
set_option maxRecDepth 100000 in
theorem t_1668 : (Jvm.Cond.code ({ cls := "ChangePlacesModel", name := "opens", desc := "(I)Z" } : Jvm.MethodName) prog_14_method_19_code (2 : Nat) (Option.some Jvm.ClassFile.FieldType.boolean)) ∈ qx_tbl := qx_t7 228 rfl rfl
set_option maxRecDepth 100000 in
theorem t_1669 : (Jvm.Cond.methodLink "ChangePlacesModel" (221 : Nat) ({ cls := "ChangePlacesModel", name := "compare", desc := "()Z" } : Jvm.MethodName)) ∈ qx_tbl := qx_t7 229 rfl rfl
set_option maxRecDepth 100000 in
theorem t_1671 : (Jvm.Cond.instanceMethod ({ cls := "ChangePlacesModel", name := "compare", desc := "()Z" } : Jvm.MethodName)) ∈ qx_tbl := qx_t7 231 rfl rfl
set_option maxRecDepth 100000 in
theorem t_1672 : (Jvm.Cond.code ({ cls := "ChangePlacesModel", name := "compare", desc := "()Z" } : Jvm.MethodName) prog_14_method_25_code (5 : Nat) (Option.some Jvm.ClassFile.FieldType.boolean)) ∈ qx_tbl := qx_t7 232 rfl rfl
set_option maxRecDepth 100000 in
theorem t_1673 : (Jvm.Cond.methodLink "ChangePlacesModel" (233 : Nat) ({ cls := "ChangePlacesModel", name := "closes", desc := "()V" } : Jvm.MethodName)) ∈ qx_tbl := qx_t7 233 rfl rfl
set_option maxRecDepth 100000 in
theorem t_1675 : (Jvm.Cond.instanceMethod ({ cls := "ChangePlacesModel", name := "closes", desc := "()V" } : Jvm.MethodName)) ∈ qx_tbl := qx_t7 235 rfl rfl
set_option maxRecDepth 100000 in
theorem t_1676 : (Jvm.Cond.code ({ cls := "ChangePlacesModel", name := "closes", desc := "()V" } : Jvm.MethodName) prog_14_method_28_code (1 : Nat) (Option.none : Option Jvm.ClassFile.FieldType)) ∈ qx_tbl := qx_t7 236 rfl rfl
set_option maxRecDepth 100000 in
theorem t_1677 : (Jvm.Cond.methodLink "ChangePlacesModel" (224 : Nat) ({ cls := "ChangePlacesModel", name := "settles", desc := "(I)V" } : Jvm.MethodName)) ∈ qx_tbl := qx_t7 237 rfl rfl
set_option maxRecDepth 100000 in
theorem t_1679 : (Jvm.Cond.instanceMethod ({ cls := "ChangePlacesModel", name := "settles", desc := "(I)V" } : Jvm.MethodName)) ∈ qx_tbl := qx_t7 239 rfl rfl
set_option maxRecDepth 100000 in
theorem t_1680 : (Jvm.Cond.code ({ cls := "ChangePlacesModel", name := "settles", desc := "(I)V" } : Jvm.MethodName) prog_14_method_21_code (2 : Nat) (Option.none : Option Jvm.ClassFile.FieldType)) ∈ qx_tbl := qx_t8 0 rfl rfl
set_option maxRecDepth 100000 in
theorem t_1681 : (Jvm.Cond.methodLink "ChangePlacesModel" (188 : Nat) ({ cls := "ChangePlacesModel", name := "strength", desc := "(I)I" } : Jvm.MethodName)) ∈ qx_tbl := qx_t8 1 rfl rfl
set_option maxRecDepth 100000 in
theorem t_1682 : (Jvm.Cond.static ({ cls := "ChangePlacesModel", name := "strength", desc := "(I)I" } : Jvm.MethodName)) ∈ qx_tbl := qx_t8 2 rfl rfl
set_option maxRecDepth 100000 in
theorem t_1683 : (Jvm.Cond.code ({ cls := "ChangePlacesModel", name := "strength", desc := "(I)I" } : Jvm.MethodName) prog_14_method_20_code (1 : Nat) (Option.some Jvm.ClassFile.FieldType.int)) ∈ qx_tbl := qx_t8 3 rfl rfl
set_option maxRecDepth 100000 in
theorem t_1684 : (Jvm.Cond.methodLink "ChangePlacesModel" (227 : Nat) ({ cls := "ChangePlacesModel", name := "isInside", desc := "()Z" } : Jvm.MethodName)) ∈ qx_tbl := qx_t8 4 rfl rfl
set_option maxRecDepth 100000 in
theorem t_1686 : (Jvm.Cond.instanceMethod ({ cls := "ChangePlacesModel", name := "isInside", desc := "()Z" } : Jvm.MethodName)) ∈ qx_tbl := qx_t8 6 rfl rfl
set_option maxRecDepth 100000 in
theorem t_1687 : (Jvm.Cond.code ({ cls := "ChangePlacesModel", name := "isInside", desc := "()Z" } : Jvm.MethodName) prog_14_method_27_code (2 : Nat) (Option.some Jvm.ClassFile.FieldType.boolean)) ∈ qx_tbl := qx_t8 7 rfl rfl
set_option maxRecDepth 100000 in
theorem t_1688 : (Jvm.Cond.constantLong "ChangePlacesModel" (236 : Nat) (6385252 : Int64)) ∈ qx_tbl := qx_t8 8 rfl rfl
set_option maxRecDepth 100000 in
theorem t_1689 : (Jvm.Cond.constantLong "ChangePlacesModel" (238 : Nat) (28530 : Int64)) ∈ qx_tbl := qx_t8 9 rfl rfl
set_option maxRecDepth 100000 in
theorem t_1690 : (Jvm.Cond.methodLink "ChangePlacesLaw" (27 : Nat) ({ cls := "ChangePlacesModel", name := "country", desc := "()I" } : Jvm.MethodName)) ∈ qx_tbl := qx_t8 10 rfl rfl
set_option maxRecDepth 100000 in
theorem t_1691 : (Jvm.Cond.instanceMethod ({ cls := "ChangePlacesModel", name := "country", desc := "()I" } : Jvm.MethodName)) ∈ qx_tbl := qx_t8 11 rfl rfl
set_option maxRecDepth 100000 in
theorem t_1692 : (Jvm.Cond.selects "ChangePlacesModel" ({ cls := "ChangePlacesModel", name := "country", desc := "()I" } : Jvm.MethodName) ({ cls := "ChangePlacesModel", name := "country", desc := "()I" } : Jvm.MethodName)) ∈ qx_tbl := qx_t8 12 rfl rfl
set_option maxRecDepth 100000 in
theorem t_1693 : (Jvm.Cond.code ({ cls := "ChangePlacesModel", name := "country", desc := "()I" } : Jvm.MethodName) prog_14_method_42_code (4 : Nat) (Option.some Jvm.ClassFile.FieldType.int)) ∈ qx_tbl := qx_t8 13 rfl rfl
set_option maxRecDepth 100000 in
theorem t_1694 : (Jvm.Cond.methodLink "ChangePlacesLaw" (35 : Nat) ({ cls := "ChangePlacesModel", name := "force", desc := "(I)I" } : Jvm.MethodName)) ∈ qx_tbl := qx_t8 14 rfl rfl
set_option maxRecDepth 100000 in
theorem t_1695 : (Jvm.Cond.instanceMethod ({ cls := "ChangePlacesModel", name := "force", desc := "(I)I" } : Jvm.MethodName)) ∈ qx_tbl := qx_t8 15 rfl rfl
set_option maxRecDepth 100000 in
theorem t_1696 : (Jvm.Cond.selects "ChangePlacesModel" ({ cls := "ChangePlacesModel", name := "force", desc := "(I)I" } : Jvm.MethodName) ({ cls := "ChangePlacesModel", name := "force", desc := "(I)I" } : Jvm.MethodName)) ∈ qx_tbl := qx_t8 16 rfl rfl
set_option maxRecDepth 100000 in
theorem t_1697 : (Jvm.Cond.code ({ cls := "ChangePlacesModel", name := "force", desc := "(I)I" } : Jvm.MethodName) prog_14_method_57_code (3 : Nat) (Option.some Jvm.ClassFile.FieldType.int)) ∈ qx_tbl := qx_t8 17 rfl rfl
set_option maxRecDepth 100000 in
theorem t_1698 : (Jvm.Cond.methodLink "ChangePlacesModel" (317 : Nat) ({ cls := "ChangePlacesModel", name := "isRule", desc := "(I)Z" } : Jvm.MethodName)) ∈ qx_tbl := qx_t8 18 rfl rfl
set_option maxRecDepth 100000 in
theorem t_1700 : (Jvm.Cond.instanceMethod ({ cls := "ChangePlacesModel", name := "isRule", desc := "(I)Z" } : Jvm.MethodName)) ∈ qx_tbl := qx_t8 20 rfl rfl
set_option maxRecDepth 100000 in
theorem t_1701 : (Jvm.Cond.code ({ cls := "ChangePlacesModel", name := "isRule", desc := "(I)Z" } : Jvm.MethodName) prog_14_method_43_code (2 : Nat) (Option.some Jvm.ClassFile.FieldType.boolean)) ∈ qx_tbl := qx_t8 21 rfl rfl
set_option maxRecDepth 100000 in
theorem t_1702 : (Jvm.Cond.methodLink "ChangePlacesLaw" (48 : Nat) ({ cls := "ChangePlacesModel", name := "liking", desc := "(II)I" } : Jvm.MethodName)) ∈ qx_tbl := qx_t8 22 rfl rfl
set_option maxRecDepth 100000 in
theorem t_1703 : (Jvm.Cond.instanceMethod ({ cls := "ChangePlacesModel", name := "liking", desc := "(II)I" } : Jvm.MethodName)) ∈ qx_tbl := qx_t8 23 rfl rfl
set_option maxRecDepth 100000 in
theorem t_1704 : (Jvm.Cond.selects "ChangePlacesModel" ({ cls := "ChangePlacesModel", name := "liking", desc := "(II)I" } : Jvm.MethodName) ({ cls := "ChangePlacesModel", name := "liking", desc := "(II)I" } : Jvm.MethodName)) ∈ qx_tbl := qx_t8 24 rfl rfl
set_option maxRecDepth 100000 in
theorem t_1705 : (Jvm.Cond.code ({ cls := "ChangePlacesModel", name := "liking", desc := "(II)I" } : Jvm.MethodName) prog_14_method_61_code (3 : Nat) (Option.some Jvm.ClassFile.FieldType.int)) ∈ qx_tbl := qx_t8 25 rfl rfl
set_option maxRecDepth 100000 in
theorem t_1706 : (Jvm.Cond.methodLink "ChangePlacesModel" (352 : Nat) ({ cls := "ChangePlacesModel", name := "isPerson", desc := "(I)Z" } : Jvm.MethodName)) ∈ qx_tbl := qx_t8 26 rfl rfl
set_option maxRecDepth 100000 in
theorem t_1708 : (Jvm.Cond.instanceMethod ({ cls := "ChangePlacesModel", name := "isPerson", desc := "(I)Z" } : Jvm.MethodName)) ∈ qx_tbl := qx_t8 28 rfl rfl
set_option maxRecDepth 100000 in
theorem t_1709 : (Jvm.Cond.code ({ cls := "ChangePlacesModel", name := "isPerson", desc := "(I)Z" } : Jvm.MethodName) prog_14_method_50_code (2 : Nat) (Option.some Jvm.ClassFile.FieldType.boolean)) ∈ qx_tbl := qx_t8 29 rfl rfl
set_option maxRecDepth 100000 in
theorem t_1710 : (Jvm.Cond.methodLink "ChangePlacesModel" (355 : Nat) ({ cls := "ChangePlacesModel", name := "isPlace", desc := "(I)Z" } : Jvm.MethodName)) ∈ qx_tbl := qx_t8 30 rfl rfl
set_option maxRecDepth 100000 in
theorem t_1712 : (Jvm.Cond.instanceMethod ({ cls := "ChangePlacesModel", name := "isPlace", desc := "(I)Z" } : Jvm.MethodName)) ∈ qx_tbl := qx_t8 32 rfl rfl
set_option maxRecDepth 100000 in
theorem t_1713 : (Jvm.Cond.code ({ cls := "ChangePlacesModel", name := "isPlace", desc := "(I)Z" } : Jvm.MethodName) prog_14_method_49_code (2 : Nat) (Option.some Jvm.ClassFile.FieldType.boolean)) ∈ qx_tbl := qx_t8 33 rfl rfl
set_option maxRecDepth 100000 in
theorem t_1714 : (Jvm.Cond.methodLink "ChangePlacesModel" (358 : Nat) ({ cls := "ChangePlacesModel", name := "likes", desc := "(II)I" } : Jvm.MethodName)) ∈ qx_tbl := qx_t8 34 rfl rfl
set_option maxRecDepth 100000 in
theorem t_1716 : (Jvm.Cond.instanceMethod ({ cls := "ChangePlacesModel", name := "likes", desc := "(II)I" } : Jvm.MethodName)) ∈ qx_tbl := qx_t8 36 rfl rfl
set_option maxRecDepth 100000 in
theorem t_1717 : (Jvm.Cond.code ({ cls := "ChangePlacesModel", name := "likes", desc := "(II)I" } : Jvm.MethodName) prog_14_method_60_code (8 : Nat) (Option.some Jvm.ClassFile.FieldType.int)) ∈ qx_tbl := qx_t8 37 rfl rfl
set_option maxRecDepth 100000 in
theorem t_1718 : (Jvm.Cond.methodLink "ChangePlacesModel" (326 : Nat) ({ cls := "ChangePlacesModel", name := "wishOf", desc := "(II)I" } : Jvm.MethodName)) ∈ qx_tbl := qx_t8 38 rfl rfl
set_option maxRecDepth 100000 in
theorem t_1720 : (Jvm.Cond.instanceMethod ({ cls := "ChangePlacesModel", name := "wishOf", desc := "(II)I" } : Jvm.MethodName)) ∈ qx_tbl := qx_t8 40 rfl rfl
set_option maxRecDepth 100000 in
theorem t_1721 : (Jvm.Cond.code ({ cls := "ChangePlacesModel", name := "wishOf", desc := "(II)I" } : Jvm.MethodName) prog_14_method_53_code (3 : Nat) (Option.some Jvm.ClassFile.FieldType.int)) ∈ qx_tbl := qx_t8 41 rfl rfl
set_option maxRecDepth 100000 in
theorem t_1722 : (Jvm.Cond.methodLink "ChangePlacesModel" (341 : Nat) ({ cls := "ChangePlacesModel", name := "words", desc := "(IIII)V" } : Jvm.MethodName)) ∈ qx_tbl := qx_t8 42 rfl rfl
set_option maxRecDepth 100000 in
theorem t_1724 : (Jvm.Cond.instanceMethod ({ cls := "ChangePlacesModel", name := "words", desc := "(IIII)V" } : Jvm.MethodName)) ∈ qx_tbl := qx_t8 44 rfl rfl
set_option maxRecDepth 100000 in
theorem t_1725 : (Jvm.Cond.code ({ cls := "ChangePlacesModel", name := "words", desc := "(IIII)V" } : Jvm.MethodName) prog_14_method_58_code (5 : Nat) (Option.none : Option Jvm.ClassFile.FieldType)) ∈ qx_tbl := qx_t8 45 rfl rfl
set_option maxRecDepth 100000 in
theorem t_1726 : (Jvm.Cond.methodLink "ChangePlacesModel" (320 : Nat) ({ cls := "ChangePlacesModel", name := "personOf", desc := "(II)I" } : Jvm.MethodName)) ∈ qx_tbl := qx_t8 46 rfl rfl
set_option maxRecDepth 100000 in
theorem t_1728 : (Jvm.Cond.instanceMethod ({ cls := "ChangePlacesModel", name := "personOf", desc := "(II)I" } : Jvm.MethodName)) ∈ qx_tbl := qx_t8 48 rfl rfl
set_option maxRecDepth 100000 in
theorem t_1729 : (Jvm.Cond.code ({ cls := "ChangePlacesModel", name := "personOf", desc := "(II)I" } : Jvm.MethodName) prog_14_method_51_code (3 : Nat) (Option.some Jvm.ClassFile.FieldType.int)) ∈ qx_tbl := qx_t8 49 rfl rfl
set_option maxRecDepth 100000 in
theorem t_1730 : (Jvm.Cond.methodLink "ChangePlacesModel" (323 : Nat) ({ cls := "ChangePlacesModel", name := "at", desc := "(I)I" } : Jvm.MethodName)) ∈ qx_tbl := qx_t8 50 rfl rfl
set_option maxRecDepth 100000 in
theorem t_1732 : (Jvm.Cond.instanceMethod ({ cls := "ChangePlacesModel", name := "at", desc := "(I)I" } : Jvm.MethodName)) ∈ qx_tbl := qx_t8 52 rfl rfl
