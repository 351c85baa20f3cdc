set_option maxRecDepth 100000 in
theorem t_1 : (Jvm.Cond.initialized "ChangePlaces") ∈ qx_tbl := qx_t1 1 rfl rfl
set_option maxRecDepth 100000 in
theorem t_2 : (Jvm.Cond.initialized "ChangePlaces$Tape") ∈ qx_tbl := qx_t1 2 rfl rfl
set_option maxRecDepth 100000 in
theorem t_3 : (Jvm.Cond.initialized "ChangePlaces$Country") ∈ qx_tbl := qx_t1 3 rfl rfl
set_option maxRecDepth 100000 in
theorem t_4 : (Jvm.Cond.initialized "ChangePlaces$State") ∈ qx_tbl := qx_t1 4 rfl rfl
set_option maxRecDepth 100000 in
theorem t_5 : (Jvm.Cond.initialized "ChangePlaces$Standing") ∈ qx_tbl := qx_t1 5 rfl rfl
set_option maxRecDepth 100000 in
theorem t_6 : (Jvm.Cond.initialized "ChangePlaces$Ring") ∈ qx_tbl := qx_t1 6 rfl rfl
set_option maxRecDepth 100000 in
theorem t_7 : (Jvm.Cond.initialized "java/util/Arrays") ∈ qx_tbl := qx_t1 7 rfl rfl
set_option maxRecDepth 100000 in
theorem t_8 : (Jvm.Cond.initialized "ChangePlaces$Laws") ∈ qx_tbl := qx_t1 8 rfl rfl
set_option maxRecDepth 100000 in
theorem t_9 : (Jvm.Cond.initialized "ChangePlaces$Way") ∈ qx_tbl := qx_t1 9 rfl rfl
set_option maxRecDepth 100000 in
theorem t_10 : (Jvm.Cond.initialized "ChangePlaces$Most") ∈ qx_tbl := qx_t1 10 rfl rfl
set_option maxRecDepth 100000 in
theorem t_11 : (Jvm.Cond.initialized "ChangePlaces$Core") ∈ qx_tbl := qx_t1 11 rfl rfl
set_option maxRecDepth 100000 in
theorem t_12 : (Jvm.Cond.initialized "ChangePlaces$Rule") ∈ qx_tbl := qx_t1 12 rfl rfl
set_option maxRecDepth 100000 in
theorem t_13 : (Jvm.Cond.initialized "ChangePlacesModel") ∈ qx_tbl := qx_t1 13 rfl rfl
set_option maxRecDepth 100000 in
theorem t_14 : (Jvm.Cond.initialized "java/lang/String") ∈ qx_tbl := qx_t1 14 rfl rfl
set_option maxRecDepth 100000 in
theorem t_18 : (Jvm.Cond.initialized "java/lang/System") ∈ qx_tbl := qx_t1 18 rfl rfl
set_option maxRecDepth 100000 in
theorem t_19 : (Jvm.Cond.initialized "java/lang/Math") ∈ qx_tbl := qx_t1 19 rfl rfl
set_option maxRecDepth 100000 in
theorem t_20 : (Jvm.Cond.initialized "ChangePlaces$Search") ∈ qx_tbl := qx_t1 20 rfl rfl
set_option maxRecDepth 100000 in
theorem t_21 : (Jvm.Cond.initialized "java/lang/Integer") ∈ qx_tbl := qx_t1 21 rfl rfl
set_option maxRecDepth 100000 in
theorem t_22 : (Jvm.Cond.classLink "ChangePlacesLaw" (7 : Nat) "ChangePlaces") ∈ qx_tbl := qx_t1 22 rfl rfl
set_option maxRecDepth 100000 in
theorem t_23 : (Jvm.Cond.instantiable "ChangePlaces" (19 : Nat)) ∈ qx_tbl := qx_t1 23 rfl rfl
set_option maxRecDepth 100000 in
theorem t_24 : (Jvm.Cond.methodLink "ChangePlacesLaw" (9 : Nat) ({ cls := "ChangePlaces", name := "<init>", desc := "()V" } : Jvm.MethodName)) ∈ qx_tbl := qx_t1 24 rfl rfl
set_option maxRecDepth 100000 in
theorem t_25 : (Jvm.Cond.instanceMethod ({ cls := "ChangePlaces", name := "<init>", desc := "()V" } : Jvm.MethodName)) ∈ qx_tbl := qx_t1 25 rfl rfl
set_option maxRecDepth 100000 in
theorem t_26 : (Jvm.Cond.code ({ cls := "ChangePlaces", name := "<init>", desc := "()V" } : Jvm.MethodName) prog_1_method_1_code (1 : Nat) (Option.none : Option Jvm.ClassFile.FieldType)) ∈ qx_tbl := qx_t1 26 rfl rfl
set_option maxRecDepth 100000 in
theorem t_27 : (Jvm.Cond.methodLink "ChangePlaces" (1 : Nat) ({ cls := "java/lang/Object", name := "<init>", desc := "()V" } : Jvm.MethodName)) ∈ qx_tbl := qx_t1 27 rfl rfl
set_option maxRecDepth 100000 in
theorem t_28 : (Jvm.Cond.instanceMethod ({ cls := "java/lang/Object", name := "<init>", desc := "()V" } : Jvm.MethodName)) ∈ qx_tbl := qx_t1 28 rfl rfl
set_option maxRecDepth 100000 in
theorem t_29 : (Jvm.Cond.code ({ cls := "java/lang/Object", name := "<init>", desc := "()V" } : Jvm.MethodName) object_method_1_code (1 : Nat) (Option.none : Option Jvm.ClassFile.FieldType)) ∈ qx_tbl := qx_t1 29 rfl rfl
set_option maxRecDepth 100000 in
theorem t_30 : (Jvm.Cond.classLink "ChangePlaces" (7 : Nat) "ChangePlaces$Tape") ∈ qx_tbl := qx_t1 30 rfl rfl
set_option maxRecDepth 100000 in
theorem t_31 : (Jvm.Cond.instantiable "ChangePlaces$Tape" (8 : Nat)) ∈ qx_tbl := qx_t1 31 rfl rfl
set_option maxRecDepth 100000 in
theorem t_33 : (Jvm.Cond.instanceMethod ({ cls := "ChangePlaces$Tape", name := "<init>", desc := "()V" } : Jvm.MethodName)) ∈ qx_tbl := qx_t1 33 rfl rfl
set_option maxRecDepth 100000 in
theorem t_34 : (Jvm.Cond.code ({ cls := "ChangePlaces$Tape", name := "<init>", desc := "()V" } : Jvm.MethodName) prog_11_method_1_code (1 : Nat) (Option.none : Option Jvm.ClassFile.FieldType)) ∈ qx_tbl := qx_t1 34 rfl rfl
set_option maxRecDepth 100000 in
theorem t_35 : (Jvm.Cond.methodLink "ChangePlaces$Tape" (5 : Nat) ({ cls := "java/lang/Object", name := "<init>", desc := "()V" } : Jvm.MethodName)) ∈ qx_tbl := qx_t1 35 rfl rfl
set_option maxRecDepth 100000 in
theorem t_36 : (Jvm.Cond.fieldLink "ChangePlaces$Tape" (11 : Nat) "ChangePlaces$Tape" "bytes" "[B") ∈ qx_tbl := qx_t1 36 rfl rfl
set_option maxRecDepth 100000 in
theorem t_37 : (Jvm.Cond.fieldLink "ChangePlaces$Tape" (15 : Nat) "ChangePlaces$Tape" "kinds" "[I") ∈ qx_tbl := qx_t1 37 rfl rfl
set_option maxRecDepth 100000 in
theorem t_38 : (Jvm.Cond.fieldLink "ChangePlaces$Tape" (19 : Nat) "ChangePlaces$Tape" "places" "[I") ∈ qx_tbl := qx_t1 38 rfl rfl
set_option maxRecDepth 100000 in
theorem t_39 : (Jvm.Cond.fieldLink "ChangePlaces$Tape" (22 : Nat) "ChangePlaces$Tape" "numbers" "[I") ∈ qx_tbl := qx_t1 39 rfl rfl
set_option maxRecDepth 100000 in
theorem t_40 : (Jvm.Cond.fieldLink "ChangePlaces$Tape" (25 : Nat) "ChangePlaces$Tape" "length" "I") ∈ qx_tbl := qx_t1 40 rfl rfl
set_option maxRecDepth 100000 in
theorem t_42 : (Jvm.Cond.fieldLink "ChangePlaces$Tape" (29 : Nat) "ChangePlaces$Tape" "pieces" "I") ∈ qx_tbl := qx_t1 42 rfl rfl
set_option maxRecDepth 100000 in
theorem t_43 : (Jvm.Cond.fieldLink "ChangePlaces$Tape" (32 : Nat) "ChangePlaces$Tape" "next" "I") ∈ qx_tbl := qx_t1 43 rfl rfl
set_option maxRecDepth 100000 in
theorem t_44 : (Jvm.Cond.fieldLink "ChangePlaces$Tape" (35 : Nat) "ChangePlaces$Tape" "fault" "I") ∈ qx_tbl := qx_t1 44 rfl rfl
set_option maxRecDepth 100000 in
theorem t_65 : (Jvm.Cond.classLink "ChangePlaces" (16 : Nat) "ChangePlaces$Country") ∈ qx_tbl := qx_t1 65 rfl rfl
set_option maxRecDepth 100000 in
theorem t_66 : (Jvm.Cond.instantiable "ChangePlaces$Country" (9 : Nat)) ∈ qx_tbl := qx_t1 66 rfl rfl
set_option maxRecDepth 100000 in
theorem t_68 : (Jvm.Cond.instanceMethod ({ cls := "ChangePlaces$Country", name := "<init>", desc := "()V" } : Jvm.MethodName)) ∈ qx_tbl := qx_t1 68 rfl rfl
set_option maxRecDepth 100000 in
theorem t_69 : (Jvm.Cond.code ({ cls := "ChangePlaces$Country", name := "<init>", desc := "()V" } : Jvm.MethodName) prog_3_method_1_code (1 : Nat) (Option.none : Option Jvm.ClassFile.FieldType)) ∈ qx_tbl := qx_t1 69 rfl rfl
set_option maxRecDepth 100000 in
theorem t_70 : (Jvm.Cond.methodLink "ChangePlaces$Country" (3 : Nat) ({ cls := "java/lang/Object", name := "<init>", desc := "()V" } : Jvm.MethodName)) ∈ qx_tbl := qx_t1 70 rfl rfl
set_option maxRecDepth 100000 in
theorem t_71 : (Jvm.Cond.fieldLink "ChangePlaces$Country" (9 : Nat) "ChangePlaces$Country" "weight" "[I") ∈ qx_tbl := qx_t1 71 rfl rfl
set_option maxRecDepth 100000 in
theorem t_75 : (Jvm.Cond.fieldLink "ChangePlaces$Country" (15 : Nat) "ChangePlaces$Country" "home" "[I") ∈ qx_tbl := qx_t1 75 rfl rfl
set_option maxRecDepth 100000 in
theorem t_79 : (Jvm.Cond.fieldLink "ChangePlaces$Country" (18 : Nat) "ChangePlaces$Country" "worth" "[I") ∈ qx_tbl := qx_t1 79 rfl rfl
set_option maxRecDepth 100000 in
theorem t_82 : (Jvm.Cond.fieldLink "ChangePlaces$Country" (21 : Nat) "ChangePlaces$Country" "callsAt" "[I") ∈ qx_tbl := qx_t1 82 rfl rfl
set_option maxRecDepth 100000 in
theorem t_84 : (Jvm.Cond.fieldLink "ChangePlaces$Country" (24 : Nat) "ChangePlaces$Country" "places" "I") ∈ qx_tbl := qx_t1 84 rfl rfl
set_option maxRecDepth 100000 in
theorem t_88 : (Jvm.Cond.fieldLink "ChangePlaces$Country" (28 : Nat) "ChangePlaces$Country" "people" "I") ∈ qx_tbl := qx_t1 88 rfl rfl
set_option maxRecDepth 100000 in
theorem t_95 : (Jvm.Cond.fieldLink "ChangePlaces$Country" (31 : Nat) "ChangePlaces$Country" "calls" "I") ∈ qx_tbl := qx_t1 95 rfl rfl
set_option maxRecDepth 100000 in
theorem t_97 : (Jvm.Cond.fieldLink "ChangePlaces$Country" (34 : Nat) "ChangePlaces$Country" "bench" "I") ∈ qx_tbl := qx_t1 97 rfl rfl
set_option maxRecDepth 100000 in
theorem t_98 : (Jvm.Cond.fieldLink "ChangePlaces$Country" (37 : Nat) "ChangePlaces$Country" "read" "I") ∈ qx_tbl := qx_t1 98 rfl rfl
set_option maxRecDepth 100000 in
theorem t_118 : (Jvm.Cond.classLink "ChangePlaces" (23 : Nat) "ChangePlaces$Rule") ∈ qx_tbl := qx_t1 118 rfl rfl
set_option maxRecDepth 100000 in
theorem t_120 : (Jvm.Cond.classLink "ChangePlaces" (29 : Nat) "ChangePlaces$State") ∈ qx_tbl := qx_t1 120 rfl rfl
set_option maxRecDepth 100000 in
theorem t_121 : (Jvm.Cond.instantiable "ChangePlaces$State" (11 : Nat)) ∈ qx_tbl := qx_t1 121 rfl rfl
set_option maxRecDepth 100000 in
theorem t_122 : (Jvm.Cond.methodLink "ChangePlaces" (31 : Nat) ({ cls := "ChangePlaces$State", name := "<init>", desc := "()V" } : Jvm.MethodName)) ∈ qx_tbl := qx_t1 122 rfl rfl
set_option maxRecDepth 100000 in
theorem t_123 : (Jvm.Cond.instanceMethod ({ cls := "ChangePlaces$State", name := "<init>", desc := "()V" } : Jvm.MethodName)) ∈ qx_tbl := qx_t1 123 rfl rfl
set_option maxRecDepth 100000 in
theorem t_124 : (Jvm.Cond.code ({ cls := "ChangePlaces$State", name := "<init>", desc := "()V" } : Jvm.MethodName) prog_10_method_1_code (2 : Nat) (Option.none : Option Jvm.ClassFile.FieldType)) ∈ qx_tbl := qx_t1 124 rfl rfl
set_option maxRecDepth 100000 in
theorem t_125 : (Jvm.Cond.methodLink "ChangePlaces$State" (3 : Nat) ({ cls := "java/lang/Object", name := "<init>", desc := "()V" } : Jvm.MethodName)) ∈ qx_tbl := qx_t1 125 rfl rfl
set_option maxRecDepth 100000 in
theorem t_126 : (Jvm.Cond.classLink "ChangePlaces$State" (9 : Nat) "ChangePlaces$Country") ∈ qx_tbl := qx_t1 126 rfl rfl
set_option maxRecDepth 100000 in
theorem t_128 : (Jvm.Cond.classLink "ChangePlaces$State" (18 : Nat) "ChangePlaces$Standing") ∈ qx_tbl := qx_t1 128 rfl rfl
set_option maxRecDepth 100000 in
theorem t_129 : (Jvm.Cond.instantiable "ChangePlaces$Standing" (6 : Nat)) ∈ qx_tbl := qx_t1 129 rfl rfl
set_option maxRecDepth 100000 in
theorem t_131 : (Jvm.Cond.instanceMethod ({ cls := "ChangePlaces$Standing", name := "<init>", desc := "()V" } : Jvm.MethodName)) ∈ qx_tbl := qx_t1 131 rfl rfl
set_option maxRecDepth 100000 in
theorem t_132 : (Jvm.Cond.code ({ cls := "ChangePlaces$Standing", name := "<init>", desc := "()V" } : Jvm.MethodName) prog_9_method_1_code (1 : Nat) (Option.none : Option Jvm.ClassFile.FieldType)) ∈ qx_tbl := qx_t1 132 rfl rfl
set_option maxRecDepth 100000 in
theorem t_133 : (Jvm.Cond.methodLink "ChangePlaces$Standing" (3 : Nat) ({ cls := "java/lang/Object", name := "<init>", desc := "()V" } : Jvm.MethodName)) ∈ qx_tbl := qx_t1 133 rfl rfl
set_option maxRecDepth 100000 in
theorem t_134 : (Jvm.Cond.fieldLink "ChangePlaces$Standing" (9 : Nat) "ChangePlaces$Standing" "at" "[I") ∈ qx_tbl := qx_t1 134 rfl rfl
set_option maxRecDepth 100000 in
theorem t_139 : (Jvm.Cond.fieldLink "ChangePlaces$Standing" (15 : Nat) "ChangePlaces$Standing" "moved" "[I") ∈ qx_tbl := qx_t1 139 rfl rfl
set_option maxRecDepth 100000 in
theorem t_142 : (Jvm.Cond.fieldLink "ChangePlaces$Standing" (18 : Nat) "ChangePlaces$Standing" "owed" "[I") ∈ qx_tbl := qx_t1 142 rfl rfl
set_option maxRecDepth 100000 in
theorem t_144 : (Jvm.Cond.fieldLink "ChangePlaces$Standing" (21 : Nat) "ChangePlaces$Standing" "debt" "[I") ∈ qx_tbl := qx_t1 144 rfl rfl
set_option maxRecDepth 100000 in
theorem t_147 : (Jvm.Cond.fieldLink "ChangePlaces$Standing" (24 : Nat) "ChangePlaces$Standing" "day" "I") ∈ qx_tbl := qx_t1 147 rfl rfl
set_option maxRecDepth 100000 in
theorem t_150 : (Jvm.Cond.fieldLink "ChangePlaces$Standing" (28 : Nat) "ChangePlaces$Standing" "rings" "I") ∈ qx_tbl := qx_t1 150 rfl rfl
set_option maxRecDepth 100000 in
theorem t_166 : (Jvm.Cond.classLink "ChangePlaces$State" (29 : Nat) "ChangePlaces$Ring") ∈ qx_tbl := qx_t1 166 rfl rfl
set_option maxRecDepth 100000 in
theorem t_167 : (Jvm.Cond.instantiable "ChangePlaces$Ring" (2 : Nat)) ∈ qx_tbl := qx_t1 167 rfl rfl
set_option maxRecDepth 100000 in
theorem t_169 : (Jvm.Cond.instanceMethod ({ cls := "ChangePlaces$Ring", name := "<init>", desc := "()V" } : Jvm.MethodName)) ∈ qx_tbl := qx_t1 169 rfl rfl
set_option maxRecDepth 100000 in
theorem t_170 : (Jvm.Cond.code ({ cls := "ChangePlaces$Ring", name := "<init>", desc := "()V" } : Jvm.MethodName) prog_6_method_1_code (1 : Nat) (Option.none : Option Jvm.ClassFile.FieldType)) ∈ qx_tbl := qx_t1 170 rfl rfl
set_option maxRecDepth 100000 in
theorem t_171 : (Jvm.Cond.methodLink "ChangePlaces$Ring" (3 : Nat) ({ cls := "java/lang/Object", name := "<init>", desc := "()V" } : Jvm.MethodName)) ∈ qx_tbl := qx_t1 171 rfl rfl
set_option maxRecDepth 100000 in
theorem t_172 : (Jvm.Cond.fieldLink "ChangePlaces$Ring" (9 : Nat) "ChangePlaces$Ring" "who" "[I") ∈ qx_tbl := qx_t1 172 rfl rfl
set_option maxRecDepth 100000 in
theorem t_175 : (Jvm.Cond.fieldLink "ChangePlaces$Ring" (15 : Nat) "ChangePlaces$Ring" "size" "I") ∈ qx_tbl := qx_t1 175 rfl rfl
set_option maxRecDepth 100000 in
theorem t_186 : (Jvm.Cond.methodLink "ChangePlaces$State" (60 : Nat) ({ cls := "java/util/Arrays", name := "fill", desc := "([II)V" } : Jvm.MethodName)) ∈ qx_tbl := qx_t1 186 rfl rfl
set_option maxRecDepth 100000 in
theorem t_187 : (Jvm.Cond.static ({ cls := "java/util/Arrays", name := "fill", desc := "([II)V" } : Jvm.MethodName)) ∈ qx_tbl := qx_t1 187 rfl rfl
set_option maxRecDepth 100000 in
theorem t_188 : (Jvm.Cond.code ({ cls := "java/util/Arrays", name := "fill", desc := "([II)V" } : Jvm.MethodName) prog_21_method_103_code (4 : Nat) (Option.none : Option Jvm.ClassFile.FieldType)) ∈ qx_tbl := qx_t1 188 rfl rfl
set_option maxRecDepth 100000 in
theorem t_189 : (Jvm.Cond.fieldLink "ChangePlaces$State" (12 : Nat) "ChangePlaces$State" "land" "LChangePlaces$Country;") ∈ qx_tbl := qx_t1 189 rfl rfl
set_option maxRecDepth 100000 in
theorem t_191 : (Jvm.Cond.fieldLink "ChangePlaces$State" (21 : Nat) "ChangePlaces$State" "now" "LChangePlaces$Standing;") ∈ qx_tbl := qx_t1 191 rfl rfl
set_option maxRecDepth 100000 in
theorem t_193 : (Jvm.Cond.fieldLink "ChangePlaces$State" (25 : Nat) "ChangePlaces$State" "past" "[LChangePlaces$Standing;") ∈ qx_tbl := qx_t1 193 rfl rfl
set_option maxRecDepth 100000 in
theorem t_194 : (Jvm.Cond.fieldLink "ChangePlaces$State" (32 : Nat) "ChangePlaces$State" "called" "LChangePlaces$Ring;") ∈ qx_tbl := qx_t1 194 rfl rfl
set_option maxRecDepth 100000 in
theorem t_196 : (Jvm.Cond.fieldLink "ChangePlaces$State" (36 : Nat) "ChangePlaces$State" "told" "[LChangePlaces$Ring;") ∈ qx_tbl := qx_t1 196 rfl rfl
set_option maxRecDepth 100000 in
theorem t_198 : (Jvm.Cond.fieldLink "ChangePlaces$State" (40 : Nat) "ChangePlaces$State" "foundAt" "[I") ∈ qx_tbl := qx_t1 198 rfl rfl
set_option maxRecDepth 100000 in
theorem t_200 : (Jvm.Cond.fieldLink "ChangePlaces$State" (44 : Nat) "ChangePlaces$State" "pastFirst" "I") ∈ qx_tbl := qx_t1 200 rfl rfl
set_option maxRecDepth 100000 in
theorem t_201 : (Jvm.Cond.fieldLink "ChangePlaces$State" (48 : Nat) "ChangePlaces$State" "pastSize" "I") ∈ qx_tbl := qx_t1 201 rfl rfl
set_option maxRecDepth 100000 in
theorem t_203 : (Jvm.Cond.fieldLink "ChangePlaces$State" (51 : Nat) "ChangePlaces$State" "bookSize" "I") ∈ qx_tbl := qx_t1 203 rfl rfl
set_option maxRecDepth 100000 in
theorem t_205 : (Jvm.Cond.fieldLink "ChangePlaces$State" (54 : Nat) "ChangePlaces$State" "inForce" "I") ∈ qx_tbl := qx_t1 205 rfl rfl
set_option maxRecDepth 100000 in
theorem t_207 : (Jvm.Cond.fieldLink "ChangePlaces$State" (57 : Nat) "ChangePlaces$State" "x" "I") ∈ qx_tbl := qx_t1 207 rfl rfl
set_option maxRecDepth 100000 in
theorem t_233 : (Jvm.Cond.classLink "ChangePlaces" (40 : Nat) "ChangePlaces$Laws") ∈ qx_tbl := qx_t1 233 rfl rfl
set_option maxRecDepth 100000 in
theorem t_234 : (Jvm.Cond.instantiable "ChangePlaces$Laws" (10 : Nat)) ∈ qx_tbl := qx_t1 234 rfl rfl
set_option maxRecDepth 100000 in
theorem t_235 : (Jvm.Cond.methodLink "ChangePlaces" (49 : Nat) ({ cls := "ChangePlaces$Laws", name := "<init>", desc := "(LChangePlaces$Country;LChangePlaces$Standing;)V" } : Jvm.MethodName)) ∈ qx_tbl := qx_t1 235 rfl rfl
set_option maxRecDepth 100000 in
theorem t_236 : (Jvm.Cond.instanceMethod ({ cls := "ChangePlaces$Laws", name := "<init>", desc := "(LChangePlaces$Country;LChangePlaces$Standing;)V" } : Jvm.MethodName)) ∈ qx_tbl := qx_t1 236 rfl rfl
set_option maxRecDepth 100000 in
theorem t_237 : (Jvm.Cond.code ({ cls := "ChangePlaces$Laws", name := "<init>", desc := "(LChangePlaces$Country;LChangePlaces$Standing;)V" } : Jvm.MethodName) prog_4_method_1_code (3 : Nat) (Option.none : Option Jvm.ClassFile.FieldType)) ∈ qx_tbl := qx_t1 237 rfl rfl
set_option maxRecDepth 100000 in
theorem t_238 : (Jvm.Cond.methodLink "ChangePlaces$Laws" (3 : Nat) ({ cls := "java/lang/Object", name := "<init>", desc := "()V" } : Jvm.MethodName)) ∈ qx_tbl := qx_t1 238 rfl rfl
set_option maxRecDepth 100000 in
theorem t_239 : (Jvm.Cond.fieldLink "ChangePlaces$Laws" (39 : Nat) "ChangePlaces$Laws" "land" "LChangePlaces$Country;") ∈ qx_tbl := qx_t1 239 rfl rfl
set_option maxRecDepth 100000 in
theorem t_244 : (Jvm.Cond.fieldLink "ChangePlaces$Laws" (43 : Nat) "ChangePlaces$Laws" "usual" "LChangePlaces$Standing;") ∈ qx_tbl := qx_t2 4 rfl rfl
set_option maxRecDepth 100000 in
theorem t_245 : (Jvm.Cond.fieldLink "ChangePlaces$Laws" (9 : Nat) "ChangePlaces$Laws" "likings" "[I") ∈ qx_tbl := qx_t2 5 rfl rfl
set_option maxRecDepth 100000 in
theorem t_246 : (Jvm.Cond.fieldLink "ChangePlaces$Laws" (17 : Nat) "ChangePlaces$Laws" "words" "[I") ∈ qx_tbl := qx_t2 6 rfl rfl
set_option maxRecDepth 100000 in
theorem t_247 : (Jvm.Cond.fieldLink "ChangePlaces$Laws" (20 : Nat) "ChangePlaces$Laws" "stack" "[J") ∈ qx_tbl := qx_t2 7 rfl rfl
set_option maxRecDepth 100000 in
theorem t_248 : (Jvm.Cond.fieldLink "ChangePlaces$Laws" (24 : Nat) "ChangePlaces$Laws" "twos" "[I") ∈ qx_tbl := qx_t2 8 rfl rfl
set_option maxRecDepth 100000 in
theorem t_249 : (Jvm.Cond.fieldLink "ChangePlaces$Laws" (47 : Nat) "ChangePlaces$Laws" "standing" "LChangePlaces$Standing;") ∈ qx_tbl := qx_t2 9 rfl rfl
set_option maxRecDepth 100000 in
theorem t_250 : (Jvm.Cond.fieldLink "ChangePlaces$Laws" (27 : Nat) "ChangePlaces$Laws" "rule" "LChangePlaces$Rule;") ∈ qx_tbl := qx_t2 10 rfl rfl
set_option maxRecDepth 100000 in
theorem t_251 : (Jvm.Cond.fieldLink "ChangePlaces$Laws" (31 : Nat) "ChangePlaces$Laws" "edition" "I") ∈ qx_tbl := qx_t2 11 rfl rfl
set_option maxRecDepth 100000 in
theorem t_256 : (Jvm.Cond.fieldLink "ChangePlaces$Laws" (35 : Nat) "ChangePlaces$Laws" "keeping" "Z") ∈ qx_tbl := qx_t2 16 rfl rfl
set_option maxRecDepth 100000 in
theorem t_279 : (Jvm.Cond.classLink "ChangePlaces" (56 : Nat) "ChangePlaces$Most") ∈ qx_tbl := qx_t2 39 rfl rfl
set_option maxRecDepth 100000 in
theorem t_280 : (Jvm.Cond.instantiable "ChangePlaces$Most" (19 : Nat)) ∈ qx_tbl := qx_t2 40 rfl rfl
set_option maxRecDepth 100000 in
theorem t_281 : (Jvm.Cond.methodLink "ChangePlaces" (58 : Nat) ({ cls := "ChangePlaces$Most", name := "<init>", desc := "(LChangePlaces$Laws;LChangePlaces$Standing;)V" } : Jvm.MethodName)) ∈ qx_tbl := qx_t2 41 rfl rfl
set_option maxRecDepth 100000 in
theorem t_282 : (Jvm.Cond.instanceMethod ({ cls := "ChangePlaces$Most", name := "<init>", desc := "(LChangePlaces$Laws;LChangePlaces$Standing;)V" } : Jvm.MethodName)) ∈ qx_tbl := qx_t2 42 rfl rfl
set_option maxRecDepth 100000 in
theorem t_283 : (Jvm.Cond.code ({ cls := "ChangePlaces$Most", name := "<init>", desc := "(LChangePlaces$Laws;LChangePlaces$Standing;)V" } : Jvm.MethodName) prog_5_method_1_code (3 : Nat) (Option.none : Option Jvm.ClassFile.FieldType)) ∈ qx_tbl := qx_t2 43 rfl rfl
set_option maxRecDepth 100000 in
theorem t_284 : (Jvm.Cond.methodLink "ChangePlaces$Most" (3 : Nat) ({ cls := "ChangePlaces$Way", name := "<init>", desc := "(LChangePlaces$Laws;LChangePlaces$Standing;)V" } : Jvm.MethodName)) ∈ qx_tbl := qx_t2 44 rfl rfl
set_option maxRecDepth 100000 in
theorem t_285 : (Jvm.Cond.instanceMethod ({ cls := "ChangePlaces$Way", name := "<init>", desc := "(LChangePlaces$Laws;LChangePlaces$Standing;)V" } : Jvm.MethodName)) ∈ qx_tbl := qx_t2 45 rfl rfl
set_option maxRecDepth 100000 in
theorem t_286 : (Jvm.Cond.code ({ cls := "ChangePlaces$Way", name := "<init>", desc := "(LChangePlaces$Laws;LChangePlaces$Standing;)V" } : Jvm.MethodName) prog_12_method_1_code (3 : Nat) (Option.none : Option Jvm.ClassFile.FieldType)) ∈ qx_tbl := qx_t2 46 rfl rfl
set_option maxRecDepth 100000 in
theorem t_287 : (Jvm.Cond.methodLink "ChangePlaces$Way" (3 : Nat) ({ cls := "java/lang/Object", name := "<init>", desc := "()V" } : Jvm.MethodName)) ∈ qx_tbl := qx_t2 47 rfl rfl
set_option maxRecDepth 100000 in
theorem t_288 : (Jvm.Cond.constant "ChangePlaces$Most" (52 : Nat) (-1000000 : Int32)) ∈ qx_tbl := qx_t2 48 rfl rfl
set_option maxRecDepth 100000 in
theorem t_289 : (Jvm.Cond.methodLink "ChangePlaces$Most" (53 : Nat) ({ cls := "java/util/Arrays", name := "fill", desc := "([II)V" } : Jvm.MethodName)) ∈ qx_tbl := qx_t2 49 rfl rfl
set_option maxRecDepth 100000 in
theorem t_290 : (Jvm.Cond.fieldLink "ChangePlaces$Most" (11 : Nat) "ChangePlaces$Most" "unbarred" "[I") ∈ qx_tbl := qx_t2 50 rfl rfl
set_option maxRecDepth 100000 in
theorem t_291 : (Jvm.Cond.fieldLink "ChangePlaces$Most" (15 : Nat) "ChangePlaces$Most" "unbarredEdition" "[I") ∈ qx_tbl := qx_t2 51 rfl rfl
set_option maxRecDepth 100000 in
theorem t_292 : (Jvm.Cond.fieldLink "ChangePlaces$Most" (18 : Nat) "ChangePlaces$Most" "open" "[I") ∈ qx_tbl := qx_t2 52 rfl rfl
set_option maxRecDepth 100000 in
theorem t_293 : (Jvm.Cond.fieldLink "ChangePlaces$Most" (21 : Nat) "ChangePlaces$Most" "gain" "[I") ∈ qx_tbl := qx_t2 53 rfl rfl
set_option maxRecDepth 100000 in
theorem t_294 : (Jvm.Cond.fieldLink "ChangePlaces$Most" (24 : Nat) "ChangePlaces$Most" "ringScore" "[I") ∈ qx_tbl := qx_t2 54 rfl rfl
set_option maxRecDepth 100000 in
theorem t_295 : (Jvm.Cond.fieldLink "ChangePlaces$Most" (27 : Nat) "ChangePlaces$Most" "rings" "[I") ∈ qx_tbl := qx_t2 55 rfl rfl
set_option maxRecDepth 100000 in
theorem t_296 : (Jvm.Cond.fieldLink "ChangePlaces$Most" (30 : Nat) "ChangePlaces$Most" "firstRing" "[I") ∈ qx_tbl := qx_t2 56 rfl rfl
set_option maxRecDepth 100000 in
theorem t_297 : (Jvm.Cond.fieldLink "ChangePlaces$Most" (33 : Nat) "ChangePlaces$Most" "best" "[I") ∈ qx_tbl := qx_t2 57 rfl rfl
set_option maxRecDepth 100000 in
theorem t_298 : (Jvm.Cond.fieldLink "ChangePlaces$Most" (36 : Nat) "ChangePlaces$Most" "row" "[I") ∈ qx_tbl := qx_t2 58 rfl rfl
set_option maxRecDepth 100000 in
theorem t_299 : (Jvm.Cond.fieldLink "ChangePlaces$Most" (39 : Nat) "ChangePlaces$Most" "ringCount" "I") ∈ qx_tbl := qx_t2 59 rfl rfl
set_option maxRecDepth 100000 in
theorem t_300 : (Jvm.Cond.fieldLink "ChangePlaces$Most" (43 : Nat) "ChangePlaces$Most" "active" "I") ∈ qx_tbl := qx_t2 60 rfl rfl
set_option maxRecDepth 100000 in
theorem t_301 : (Jvm.Cond.fieldLink "ChangePlaces$Most" (46 : Nat) "ChangePlaces$Most" "upTo" "I") ∈ qx_tbl := qx_t2 61 rfl rfl
set_option maxRecDepth 100000 in
theorem t_302 : (Jvm.Cond.fieldLink "ChangePlaces$Most" (49 : Nat) "ChangePlaces$Most" "settledEdition" "I") ∈ qx_tbl := qx_t2 62 rfl rfl
set_option maxRecDepth 100000 in
theorem t_303 : (Jvm.Cond.fieldLink "ChangePlaces$Way" (24 : Nat) "ChangePlaces$Way" "laws" "LChangePlaces$Laws;") ∈ qx_tbl := qx_t2 63 rfl rfl
set_option maxRecDepth 100000 in
theorem t_304 : (Jvm.Cond.fieldLink "ChangePlaces$Core" (15 : Nat) "ChangePlaces$Core" "laws" "LChangePlaces$Laws;") ∈ qx_tbl := qx_t2 64 rfl rfl
set_option maxRecDepth 100000 in
theorem t_305 : (Jvm.Cond.sameField "ChangePlaces$Core" "ChangePlaces$Way" "laws" "LChangePlaces$Laws;") ∈ qx_tbl := qx_t2 65 rfl rfl
set_option maxRecDepth 100000 in
theorem t_306 : (Jvm.Cond.fieldLink "ChangePlaces$Most" (59 : Nat) "ChangePlaces$Most" "laws" "LChangePlaces$Laws;") ∈ qx_tbl := qx_t2 66 rfl rfl
set_option maxRecDepth 100000 in
theorem t_307 : (Jvm.Cond.sameField "ChangePlaces$Most" "ChangePlaces$Way" "laws" "LChangePlaces$Laws;") ∈ qx_tbl := qx_t2 67 rfl rfl
set_option maxRecDepth 100000 in
theorem t_308 : (Jvm.Cond.fieldLink "ChangePlaces$Way" (28 : Nat) "ChangePlaces$Way" "now" "LChangePlaces$Standing;") ∈ qx_tbl := qx_t2 68 rfl rfl
set_option maxRecDepth 100000 in
theorem t_309 : (Jvm.Cond.fieldLink "ChangePlaces$Core" (42 : Nat) "ChangePlaces$Core" "now" "LChangePlaces$Standing;") ∈ qx_tbl := qx_t2 69 rfl rfl
set_option maxRecDepth 100000 in
theorem t_310 : (Jvm.Cond.sameField "ChangePlaces$Core" "ChangePlaces$Way" "now" "LChangePlaces$Standing;") ∈ qx_tbl := qx_t2 70 rfl rfl
set_option maxRecDepth 100000 in
theorem t_311 : (Jvm.Cond.fieldLink "ChangePlaces$Most" (113 : Nat) "ChangePlaces$Most" "now" "LChangePlaces$Standing;") ∈ qx_tbl := qx_t2 71 rfl rfl
set_option maxRecDepth 100000 in
theorem t_312 : (Jvm.Cond.sameField "ChangePlaces$Most" "ChangePlaces$Way" "now" "LChangePlaces$Standing;") ∈ qx_tbl := qx_t2 72 rfl rfl
set_option maxRecDepth 100000 in
theorem t_313 : (Jvm.Cond.fieldLink "ChangePlaces$Way" (9 : Nat) "ChangePlaces$Way" "takes" "[I") ∈ qx_tbl := qx_t2 73 rfl rfl
set_option maxRecDepth 100000 in
theorem t_314 : (Jvm.Cond.fieldLink "ChangePlaces$Core" (39 : Nat) "ChangePlaces$Core" "takes" "[I") ∈ qx_tbl := qx_t2 74 rfl rfl
set_option maxRecDepth 100000 in
theorem t_315 : (Jvm.Cond.sameField "ChangePlaces$Core" "ChangePlaces$Way" "takes" "[I") ∈ qx_tbl := qx_t2 75 rfl rfl
set_option maxRecDepth 100000 in
theorem t_316 : (Jvm.Cond.fieldLink "ChangePlaces$Most" (80 : Nat) "ChangePlaces$Most" "takes" "[I") ∈ qx_tbl := qx_t2 76 rfl rfl
set_option maxRecDepth 100000 in
theorem t_317 : (Jvm.Cond.sameField "ChangePlaces$Most" "ChangePlaces$Way" "takes" "[I") ∈ qx_tbl := qx_t2 77 rfl rfl
set_option maxRecDepth 100000 in
theorem t_318 : (Jvm.Cond.fieldLink "ChangePlaces" (297 : Nat) "ChangePlaces$Most" "takes" "[I") ∈ qx_tbl := qx_t2 78 rfl rfl
set_option maxRecDepth 100000 in
theorem t_319 : (Jvm.Cond.fieldLink "ChangePlaces" (304 : Nat) "ChangePlaces$Core" "takes" "[I") ∈ qx_tbl := qx_t2 79 rfl rfl
set_option maxRecDepth 100000 in
theorem t_320 : (Jvm.Cond.fieldLink "ChangePlaces$Way" (15 : Nat) "ChangePlaces$Way" "said" "[I") ∈ qx_tbl := qx_t2 80 rfl rfl
set_option maxRecDepth 100000 in
theorem t_321 : (Jvm.Cond.fieldLink "ChangePlaces$Way" (18 : Nat) "ChangePlaces$Way" "lie" "[I") ∈ qx_tbl := qx_t2 81 rfl rfl
set_option maxRecDepth 100000 in
theorem t_322 : (Jvm.Cond.fieldLink "ChangePlaces$Way" (21 : Nat) "ChangePlaces$Way" "lieEdition" "[I") ∈ qx_tbl := qx_t2 82 rfl rfl
set_option maxRecDepth 100000 in
theorem t_362 : (Jvm.Cond.classLink "ChangePlaces" (65 : Nat) "ChangePlaces$Core") ∈ qx_tbl := qx_t2 122 rfl rfl
set_option maxRecDepth 100000 in
theorem t_363 : (Jvm.Cond.instantiable "ChangePlaces$Core" (7 : Nat)) ∈ qx_tbl := qx_t2 123 rfl rfl
set_option maxRecDepth 100000 in
theorem t_364 : (Jvm.Cond.methodLink "ChangePlaces" (67 : Nat) ({ cls := "ChangePlaces$Core", name := "<init>", desc := "(LChangePlaces$Laws;LChangePlaces$Standing;)V" } : Jvm.MethodName)) ∈ qx_tbl := qx_t2 124 rfl rfl
set_option maxRecDepth 100000 in
theorem t_365 : (Jvm.Cond.instanceMethod ({ cls := "ChangePlaces$Core", name := "<init>", desc := "(LChangePlaces$Laws;LChangePlaces$Standing;)V" } : Jvm.MethodName)) ∈ qx_tbl := qx_t2 125 rfl rfl
set_option maxRecDepth 100000 in
theorem t_366 : (Jvm.Cond.code ({ cls := "ChangePlaces$Core", name := "<init>", desc := "(LChangePlaces$Laws;LChangePlaces$Standing;)V" } : Jvm.MethodName) prog_2_method_1_code (3 : Nat) (Option.none : Option Jvm.ClassFile.FieldType)) ∈ qx_tbl := qx_t2 126 rfl rfl
set_option maxRecDepth 100000 in
theorem t_367 : (Jvm.Cond.methodLink "ChangePlaces$Core" (3 : Nat) ({ cls := "ChangePlaces$Way", name := "<init>", desc := "(LChangePlaces$Laws;LChangePlaces$Standing;)V" } : Jvm.MethodName)) ∈ qx_tbl := qx_t2 127 rfl rfl
set_option maxRecDepth 100000 in
theorem t_368 : (Jvm.Cond.fieldLink "ChangePlaces$Core" (9 : Nat) "ChangePlaces$Core" "points" "[I") ∈ qx_tbl := qx_t2 128 rfl rfl
set_option maxRecDepth 100000 in
theorem t_378 : (Jvm.Cond.classLink "ChangePlaces" (72 : Nat) "ChangePlaces$Standing") ∈ qx_tbl := qx_t2 138 rfl rfl
set_option maxRecDepth 100000 in
theorem t_380 : (Jvm.Cond.classLink "ChangePlaces" (78 : Nat) "ChangePlaces$Ring") ∈ qx_tbl := qx_t2 140 rfl rfl
set_option maxRecDepth 100000 in
theorem t_382 : (Jvm.Cond.instantiable "ChangePlaces$Rule" (9 : Nat)) ∈ qx_tbl := qx_t2 142 rfl rfl
set_option maxRecDepth 100000 in
theorem t_384 : (Jvm.Cond.instanceMethod ({ cls := "ChangePlaces$Rule", name := "<init>", desc := "()V" } : Jvm.MethodName)) ∈ qx_tbl := qx_t2 144 rfl rfl
set_option maxRecDepth 100000 in
theorem t_385 : (Jvm.Cond.code ({ cls := "ChangePlaces$Rule", name := "<init>", desc := "()V" } : Jvm.MethodName) prog_7_method_1_code (1 : Nat) (Option.none : Option Jvm.ClassFile.FieldType)) ∈ qx_tbl := qx_t2 145 rfl rfl
set_option maxRecDepth 100000 in
theorem t_386 : (Jvm.Cond.methodLink "ChangePlaces$Rule" (5 : Nat) ({ cls := "java/lang/Object", name := "<init>", desc := "()V" } : Jvm.MethodName)) ∈ qx_tbl := qx_t2 146 rfl rfl
set_option maxRecDepth 100000 in
theorem t_387 : (Jvm.Cond.fieldLink "ChangePlaces$Rule" (11 : Nat) "ChangePlaces$Rule" "steps" "[I") ∈ qx_tbl := qx_t2 147 rfl rfl
set_option maxRecDepth 100000 in
theorem t_389 : (Jvm.Cond.fieldLink "ChangePlaces$Rule" (15 : Nat) "ChangePlaces$Rule" "bars" "[Z") ∈ qx_tbl := qx_t2 149 rfl rfl
set_option maxRecDepth 100000 in
theorem t_391 : (Jvm.Cond.fieldLink "ChangePlaces$Rule" (19 : Nat) "ChangePlaces$Rule" "from" "[I") ∈ qx_tbl := qx_t2 151 rfl rfl
set_option maxRecDepth 100000 in
theorem t_393 : (Jvm.Cond.fieldLink "ChangePlaces$Rule" (22 : Nat) "ChangePlaces$Rule" "testFrom" "[I") ∈ qx_tbl := qx_t2 153 rfl rfl
set_option maxRecDepth 100000 in
theorem t_395 : (Jvm.Cond.fieldLink "ChangePlaces$Rule" (25 : Nat) "ChangePlaces$Rule" "to" "[I") ∈ qx_tbl := qx_t2 155 rfl rfl
set_option maxRecDepth 100000 in
theorem t_397 : (Jvm.Cond.fieldLink "ChangePlaces$Rule" (28 : Nat) "ChangePlaces$Rule" "length" "I") ∈ qx_tbl := qx_t2 157 rfl rfl
set_option maxRecDepth 100000 in
theorem t_398 : (Jvm.Cond.fieldLink "ChangePlaces$Rule" (32 : Nat) "ChangePlaces$Rule" "clauses" "I") ∈ qx_tbl := qx_t2 158 rfl rfl
set_option maxRecDepth 100000 in
theorem t_400 : (Jvm.Cond.fieldLink "ChangePlaces$Rule" (35 : Nat) "ChangePlaces$Rule" "parts" "I") ∈ qx_tbl := qx_t2 160 rfl rfl
set_option maxRecDepth 100000 in
theorem t_401 : (Jvm.Cond.fieldLink "ChangePlaces$Rule" (38 : Nat) "ChangePlaces$Rule" "growing" "Z") ∈ qx_tbl := qx_t2 161 rfl rfl
set_option maxRecDepth 100000 in
theorem t_423 : (Jvm.Cond.fieldLink "ChangePlaces" (10 : Nat) "ChangePlaces" "tape" "LChangePlaces$Tape;") ∈ qx_tbl := qx_t2 183 rfl rfl
set_option maxRecDepth 100000 in
theorem t_424 : (Jvm.Cond.fieldLink "ChangePlaces" (19 : Nat) "ChangePlaces" "draft" "LChangePlaces$Country;") ∈ qx_tbl := qx_t2 184 rfl rfl
set_option maxRecDepth 100000 in
theorem t_425 : (Jvm.Cond.fieldLink "ChangePlaces" (25 : Nat) "ChangePlaces" "rules" "[LChangePlaces$Rule;") ∈ qx_tbl := qx_t2 185 rfl rfl
set_option maxRecDepth 100000 in
theorem t_426 : (Jvm.Cond.fieldLink "ChangePlaces" (32 : Nat) "ChangePlaces" "state" "LChangePlaces$State;") ∈ qx_tbl := qx_t2 186 rfl rfl
set_option maxRecDepth 100000 in
theorem t_427 : (Jvm.Cond.fieldLink "ChangePlaces" (36 : Nat) "ChangePlaces" "images" "[LChangePlaces$State;") ∈ qx_tbl := qx_t2 187 rfl rfl
set_option maxRecDepth 100000 in
theorem t_428 : (Jvm.Cond.fieldLink "ChangePlaces" (52 : Nat) "ChangePlaces" "laws" "LChangePlaces$Laws;") ∈ qx_tbl := qx_t2 188 rfl rfl
set_option maxRecDepth 100000 in
theorem t_429 : (Jvm.Cond.fieldLink "ChangePlaces" (61 : Nat) "ChangePlaces" "mostWay" "LChangePlaces$Most;") ∈ qx_tbl := qx_t2 189 rfl rfl
set_option maxRecDepth 100000 in
theorem t_430 : (Jvm.Cond.fieldLink "ChangePlaces" (68 : Nat) "ChangePlaces" "coreWay" "LChangePlaces$Core;") ∈ qx_tbl := qx_t2 190 rfl rfl
set_option maxRecDepth 100000 in
theorem t_431 : (Jvm.Cond.fieldLink "ChangePlaces" (75 : Nat) "ChangePlaces" "trial" "LChangePlaces$Standing;") ∈ qx_tbl := qx_t2 191 rfl rfl
set_option maxRecDepth 100000 in
theorem t_432 : (Jvm.Cond.fieldLink "ChangePlaces" (81 : Nat) "ChangePlaces" "two" "LChangePlaces$Ring;") ∈ qx_tbl := qx_t2 192 rfl rfl
set_option maxRecDepth 100000 in
theorem t_433 : (Jvm.Cond.fieldLink "ChangePlaces" (85 : Nat) "ChangePlaces" "likes" "[I") ∈ qx_tbl := qx_t2 193 rfl rfl
set_option maxRecDepth 100000 in
theorem t_434 : (Jvm.Cond.fieldLink "ChangePlaces" (89 : Nat) "ChangePlaces" "spots" "[I") ∈ qx_tbl := qx_t2 194 rfl rfl
set_option maxRecDepth 100000 in
theorem t_435 : (Jvm.Cond.fieldLink "ChangePlaces" (92 : Nat) "ChangePlaces" "days" "[I") ∈ qx_tbl := qx_t2 195 rfl rfl
set_option maxRecDepth 100000 in
theorem t_436 : (Jvm.Cond.fieldLink "ChangePlaces" (95 : Nat) "ChangePlaces" "servers" "[I") ∈ qx_tbl := qx_t2 196 rfl rfl
set_option maxRecDepth 100000 in
theorem t_437 : (Jvm.Cond.fieldLink "ChangePlaces" (99 : Nat) "ChangePlaces" "draftRule" "LChangePlaces$Rule;") ∈ qx_tbl := qx_t2 197 rfl rfl
set_option maxRecDepth 100000 in
theorem t_438 : (Jvm.Cond.fieldLink "ChangePlaces" (103 : Nat) "ChangePlaces" "ruleCount" "I") ∈ qx_tbl := qx_t2 198 rfl rfl
set_option maxRecDepth 100000 in
theorem t_439 : (Jvm.Cond.fieldLink "ChangePlaces" (107 : Nat) "ChangePlaces" "likesEdition" "I") ∈ qx_tbl := qx_t2 199 rfl rfl
set_option maxRecDepth 100000 in
theorem t_440 : (Jvm.Cond.fieldLink "ChangePlaces" (110 : Nat) "ChangePlaces" "fromNow" "LChangePlaces$Search;") ∈ qx_tbl := qx_t2 200 rfl rfl
set_option maxRecDepth 100000 in
theorem t_441 : (Jvm.Cond.fieldLink "ChangePlaces" (114 : Nat) "ChangePlaces" "fromHome" "LChangePlaces$Search;") ∈ qx_tbl := qx_t2 201 rfl rfl
set_option maxRecDepth 100000 in
theorem t_481 : (Jvm.Cond.methodLink "ChangePlacesLaw" (13 : Nat) ({ cls := "ChangePlaces", name := "feed", desc := "(IIIII)I" } : Jvm.MethodName)) ∈ qx_tbl := qx_t3 1 rfl rfl
set_option maxRecDepth 100000 in
theorem t_482 : (Jvm.Cond.instanceMethod ({ cls := "ChangePlaces", name := "feed", desc := "(IIIII)I" } : Jvm.MethodName)) ∈ qx_tbl := qx_t3 2 rfl rfl
set_option maxRecDepth 100000 in
theorem t_483 : (Jvm.Cond.selects "ChangePlaces" ({ cls := "ChangePlaces", name := "feed", desc := "(IIIII)I" } : Jvm.MethodName) ({ cls := "ChangePlaces", name := "feed", desc := "(IIIII)I" } : Jvm.MethodName)) ∈ qx_tbl := qx_t3 3 rfl rfl
set_option maxRecDepth 100000 in
theorem t_484 : (Jvm.Cond.code ({ cls := "ChangePlaces", name := "feed", desc := "(IIIII)I" } : Jvm.MethodName) prog_1_method_2_code (6 : Nat) (Option.some Jvm.ClassFile.FieldType.int)) ∈ qx_tbl := qx_t3 4 rfl rfl
set_option maxRecDepth 100000 in
theorem t_485 : (Jvm.Cond.methodLink "ChangePlaces" (120 : Nat) ({ cls := "ChangePlaces$Tape", name := "put", desc := "(I)V" } : Jvm.MethodName)) ∈ qx_tbl := qx_t3 5 rfl rfl
set_option maxRecDepth 100000 in
theorem t_486 : (Jvm.Cond.instanceMethod ({ cls := "ChangePlaces$Tape", name := "put", desc := "(I)V" } : Jvm.MethodName)) ∈ qx_tbl := qx_t3 6 rfl rfl
set_option maxRecDepth 100000 in
theorem t_487 : (Jvm.Cond.selects "ChangePlaces$Tape" ({ cls := "ChangePlaces$Tape", name := "put", desc := "(I)V" } : Jvm.MethodName) ({ cls := "ChangePlaces$Tape", name := "put", desc := "(I)V" } : Jvm.MethodName)) ∈ qx_tbl := qx_t3 7 rfl rfl
set_option maxRecDepth 100000 in
theorem t_488 : (Jvm.Cond.code ({ cls := "ChangePlaces$Tape", name := "put", desc := "(I)V" } : Jvm.MethodName) prog_11_method_2_code (3 : Nat) (Option.none : Option Jvm.ClassFile.FieldType)) ∈ qx_tbl := qx_t3 8 rfl rfl
set_option maxRecDepth 100000 in
theorem t_489 : (Jvm.Cond.methodLink "ChangePlacesLaw" (18 : Nat) ({ cls := "ChangePlaces", name := "end", desc := "(I)I" } : Jvm.MethodName)) ∈ qx_tbl := qx_t3 9 rfl rfl
set_option maxRecDepth 100000 in
theorem t_490 : (Jvm.Cond.instanceMethod ({ cls := "ChangePlaces", name := "end", desc := "(I)I" } : Jvm.MethodName)) ∈ qx_tbl := qx_t3 10 rfl rfl
set_option maxRecDepth 100000 in
theorem t_491 : (Jvm.Cond.selects "ChangePlaces" ({ cls := "ChangePlaces", name := "end", desc := "(I)I" } : Jvm.MethodName) ({ cls := "ChangePlaces", name := "end", desc := "(I)I" } : Jvm.MethodName)) ∈ qx_tbl := qx_t3 11 rfl rfl
set_option maxRecDepth 100000 in
theorem t_492 : (Jvm.Cond.code ({ cls := "ChangePlaces", name := "end", desc := "(I)I" } : Jvm.MethodName) prog_1_method_3_code (2 : Nat) (Option.some Jvm.ClassFile.FieldType.int)) ∈ qx_tbl := qx_t3 12 rfl rfl
set_option maxRecDepth 100000 in
theorem t_493 : (Jvm.Cond.methodLink "ChangePlacesLaw" (23 : Nat) ({ cls := "ChangePlaces", name := "country", desc := "()I" } : Jvm.MethodName)) ∈ qx_tbl := qx_t3 13 rfl rfl
set_option maxRecDepth 100000 in
theorem t_494 : (Jvm.Cond.instanceMethod ({ cls := "ChangePlaces", name := "country", desc := "()I" } : Jvm.MethodName)) ∈ qx_tbl := qx_t3 14 rfl rfl
set_option maxRecDepth 100000 in
theorem t_495 : (Jvm.Cond.selects "ChangePlaces" ({ cls := "ChangePlaces", name := "country", desc := "()I" } : Jvm.MethodName) ({ cls := "ChangePlaces", name := "country", desc := "()I" } : Jvm.MethodName)) ∈ qx_tbl := qx_t3 15 rfl rfl
set_option maxRecDepth 100000 in
theorem t_496 : (Jvm.Cond.code ({ cls := "ChangePlaces", name := "country", desc := "()I" } : Jvm.MethodName) prog_1_method_4_code (2 : Nat) (Option.some Jvm.ClassFile.FieldType.int)) ∈ qx_tbl := qx_t3 16 rfl rfl
set_option maxRecDepth 100000 in
theorem t_497 : (Jvm.Cond.methodLink "ChangePlaces" (124 : Nat) ({ cls := "ChangePlaces$Country", name := "readFrom", desc := "(LChangePlaces$Tape;)Z" } : Jvm.MethodName)) ∈ qx_tbl := qx_t3 17 rfl rfl
set_option maxRecDepth 100000 in
theorem t_498 : (Jvm.Cond.instanceMethod ({ cls := "ChangePlaces$Country", name := "readFrom", desc := "(LChangePlaces$Tape;)Z" } : Jvm.MethodName)) ∈ qx_tbl := qx_t3 18 rfl rfl
set_option maxRecDepth 100000 in
theorem t_499 : (Jvm.Cond.selects "ChangePlaces$Country" ({ cls := "ChangePlaces$Country", name := "readFrom", desc := "(LChangePlaces$Tape;)Z" } : Jvm.MethodName) ({ cls := "ChangePlaces$Country", name := "readFrom", desc := "(LChangePlaces$Tape;)Z" } : Jvm.MethodName)) ∈ qx_tbl := qx_t3 19 rfl rfl
set_option maxRecDepth 100000 in
theorem t_500 : (Jvm.Cond.code ({ cls := "ChangePlaces$Country", name := "readFrom", desc := "(LChangePlaces$Tape;)Z" } : Jvm.MethodName) prog_3_method_5_code (4 : Nat) (Option.some Jvm.ClassFile.FieldType.boolean)) ∈ qx_tbl := qx_t3 20 rfl rfl
set_option maxRecDepth 100000 in
theorem t_501 : (Jvm.Cond.methodLink "ChangePlaces$Country" (52 : Nat) ({ cls := "ChangePlaces$Country", name := "clear", desc := "()V" } : Jvm.MethodName)) ∈ qx_tbl := qx_t3 21 rfl rfl
set_option maxRecDepth 100000 in
theorem t_503 : (Jvm.Cond.instanceMethod ({ cls := "ChangePlaces$Country", name := "clear", desc := "()V" } : Jvm.MethodName)) ∈ qx_tbl := qx_t3 23 rfl rfl
set_option maxRecDepth 100000 in
theorem t_504 : (Jvm.Cond.code ({ cls := "ChangePlaces$Country", name := "clear", desc := "()V" } : Jvm.MethodName) prog_3_method_4_code (1 : Nat) (Option.none : Option Jvm.ClassFile.FieldType)) ∈ qx_tbl := qx_t3 24 rfl rfl
set_option maxRecDepth 100000 in
theorem t_505 : (Jvm.Cond.methodLink "ChangePlaces$Country" (46 : Nat) ({ cls := "java/util/Arrays", name := "fill", desc := "([II)V" } : Jvm.MethodName)) ∈ qx_tbl := qx_t3 25 rfl rfl
set_option maxRecDepth 100000 in
theorem t_506 : (Jvm.Cond.methodLink "ChangePlaces$Country" (55 : Nat) ({ cls := "ChangePlaces$Tape", name := "cut", desc := "()V" } : Jvm.MethodName)) ∈ qx_tbl := qx_t3 26 rfl rfl
set_option maxRecDepth 100000 in
theorem t_507 : (Jvm.Cond.instanceMethod ({ cls := "ChangePlaces$Tape", name := "cut", desc := "()V" } : Jvm.MethodName)) ∈ qx_tbl := qx_t3 27 rfl rfl
set_option maxRecDepth 100000 in
theorem t_508 : (Jvm.Cond.selects "ChangePlaces$Tape" ({ cls := "ChangePlaces$Tape", name := "cut", desc := "()V" } : Jvm.MethodName) ({ cls := "ChangePlaces$Tape", name := "cut", desc := "()V" } : Jvm.MethodName)) ∈ qx_tbl := qx_t3 28 rfl rfl
set_option maxRecDepth 100000 in
theorem t_509 : (Jvm.Cond.code ({ cls := "ChangePlaces$Tape", name := "cut", desc := "()V" } : Jvm.MethodName) prog_11_method_3_code (4 : Nat) (Option.none : Option Jvm.ClassFile.FieldType)) ∈ qx_tbl := qx_t3 29 rfl rfl
set_option maxRecDepth 100000 in
theorem t_510 : (Jvm.Cond.methodLink "ChangePlaces$Tape" (38 : Nat) ({ cls := "ChangePlaces$Tape", name := "byteAt", desc := "(I)I" } : Jvm.MethodName)) ∈ qx_tbl := qx_t3 30 rfl rfl
set_option maxRecDepth 100000 in
theorem t_512 : (Jvm.Cond.instanceMethod ({ cls := "ChangePlaces$Tape", name := "byteAt", desc := "(I)I" } : Jvm.MethodName)) ∈ qx_tbl := qx_t3 32 rfl rfl
set_option maxRecDepth 100000 in
theorem t_513 : (Jvm.Cond.code ({ cls := "ChangePlaces$Tape", name := "byteAt", desc := "(I)I" } : Jvm.MethodName) prog_11_method_4_code (2 : Nat) (Option.some Jvm.ClassFile.FieldType.int)) ∈ qx_tbl := qx_t3 33 rfl rfl
set_option maxRecDepth 100000 in
theorem t_514 : (Jvm.Cond.methodLink "ChangePlaces$Tape" (42 : Nat) ({ cls := "ChangePlaces$Tape", name := "isLetter", desc := "(I)Z" } : Jvm.MethodName)) ∈ qx_tbl := qx_t3 34 rfl rfl
set_option maxRecDepth 100000 in
theorem t_515 : (Jvm.Cond.static ({ cls := "ChangePlaces$Tape", name := "isLetter", desc := "(I)Z" } : Jvm.MethodName)) ∈ qx_tbl := qx_t3 35 rfl rfl
set_option maxRecDepth 100000 in
theorem t_516 : (Jvm.Cond.code ({ cls := "ChangePlaces$Tape", name := "isLetter", desc := "(I)Z" } : Jvm.MethodName) prog_11_method_5_code (1 : Nat) (Option.some Jvm.ClassFile.FieldType.boolean)) ∈ qx_tbl := qx_t3 36 rfl rfl
set_option maxRecDepth 100000 in
theorem t_517 : (Jvm.Cond.methodLink "ChangePlaces$Tape" (46 : Nat) ({ cls := "ChangePlaces$Tape", name := "cutWord", desc := "(I)I" } : Jvm.MethodName)) ∈ qx_tbl := qx_t3 37 rfl rfl
set_option maxRecDepth 100000 in
theorem t_519 : (Jvm.Cond.instanceMethod ({ cls := "ChangePlaces$Tape", name := "cutWord", desc := "(I)I" } : Jvm.MethodName)) ∈ qx_tbl := qx_t3 39 rfl rfl
set_option maxRecDepth 100000 in
theorem t_520 : (Jvm.Cond.code ({ cls := "ChangePlaces$Tape", name := "cutWord", desc := "(I)I" } : Jvm.MethodName) prog_11_method_9_code (7 : Nat) (Option.some Jvm.ClassFile.FieldType.int)) ∈ qx_tbl := qx_t3 40 rfl rfl
set_option maxRecDepth 100000 in
theorem t_525 : (Jvm.Cond.code ({ cls := "java/lang/String", name := "length", desc := "()I" } : Jvm.MethodName) prog_17_method_54_code (1 : Nat) (Option.some Jvm.ClassFile.FieldType.int)) ∈ qx_tbl := qx_t3 45 rfl rfl
set_option maxRecDepth 100000 in
theorem t_535 : (Jvm.Cond.code ({ cls := "java/lang/String", name := "charAt", desc := "(I)C" } : Jvm.MethodName) prog_17_method_56_code (2 : Nat) (Option.some Jvm.ClassFile.FieldType.char)) ∈ qx_tbl := qx_t3 55 rfl rfl
set_option maxRecDepth 100000 in
theorem t_570 : (Jvm.Cond.methodLink "ChangePlaces$Tape" (70 : Nat) ({ cls := "ChangePlaces$Tape", name := "matches", desc := "(III)Z" } : Jvm.MethodName)) ∈ qx_tbl := qx_t3 90 rfl rfl
set_option maxRecDepth 100000 in
theorem t_572 : (Jvm.Cond.instanceMethod ({ cls := "ChangePlaces$Tape", name := "matches", desc := "(III)Z" } : Jvm.MethodName)) ∈ qx_tbl := qx_t3 92 rfl rfl
set_option maxRecDepth 100000 in
theorem t_573 : (Jvm.Cond.code ({ cls := "ChangePlaces$Tape", name := "matches", desc := "(III)Z" } : Jvm.MethodName) prog_11_method_10_code (5 : Nat) (Option.some Jvm.ClassFile.FieldType.boolean)) ∈ qx_tbl := qx_t3 93 rfl rfl
set_option maxRecDepth 100000 in
theorem t_574 : (Jvm.Cond.methodLink "ChangePlaces$Tape" (55 : Nat) ({ cls := "ChangePlaces$Tape", name := "keep", desc := "(III)V" } : Jvm.MethodName)) ∈ qx_tbl := qx_t3 94 rfl rfl
set_option maxRecDepth 100000 in
theorem t_576 : (Jvm.Cond.instanceMethod ({ cls := "ChangePlaces$Tape", name := "keep", desc := "(III)V" } : Jvm.MethodName)) ∈ qx_tbl := qx_t3 96 rfl rfl
set_option maxRecDepth 100000 in
theorem t_577 : (Jvm.Cond.code ({ cls := "ChangePlaces$Tape", name := "keep", desc := "(III)V" } : Jvm.MethodName) prog_11_method_7_code (4 : Nat) (Option.none : Option Jvm.ClassFile.FieldType)) ∈ qx_tbl := qx_t3 97 rfl rfl
set_option maxRecDepth 100000 in
theorem t_578 : (Jvm.Cond.methodLink "ChangePlaces$Tape" (49 : Nat) ({ cls := "ChangePlaces$Tape", name := "isDigit", desc := "(I)Z" } : Jvm.MethodName)) ∈ qx_tbl := qx_t3 98 rfl rfl
set_option maxRecDepth 100000 in
theorem t_579 : (Jvm.Cond.static ({ cls := "ChangePlaces$Tape", name := "isDigit", desc := "(I)Z" } : Jvm.MethodName)) ∈ qx_tbl := qx_t3 99 rfl rfl
set_option maxRecDepth 100000 in
theorem t_580 : (Jvm.Cond.code ({ cls := "ChangePlaces$Tape", name := "isDigit", desc := "(I)Z" } : Jvm.MethodName) prog_11_method_6_code (1 : Nat) (Option.some Jvm.ClassFile.FieldType.boolean)) ∈ qx_tbl := qx_t3 100 rfl rfl
set_option maxRecDepth 100000 in
theorem t_581 : (Jvm.Cond.methodLink "ChangePlaces$Tape" (52 : Nat) ({ cls := "ChangePlaces$Tape", name := "cutNumber", desc := "(I)I" } : Jvm.MethodName)) ∈ qx_tbl := qx_t3 101 rfl rfl
set_option maxRecDepth 100000 in
theorem t_583 : (Jvm.Cond.instanceMethod ({ cls := "ChangePlaces$Tape", name := "cutNumber", desc := "(I)I" } : Jvm.MethodName)) ∈ qx_tbl := qx_t3 103 rfl rfl
set_option maxRecDepth 100000 in
theorem t_584 : (Jvm.Cond.code ({ cls := "ChangePlaces$Tape", name := "cutNumber", desc := "(I)I" } : Jvm.MethodName) prog_11_method_8_code (4 : Nat) (Option.some Jvm.ClassFile.FieldType.int)) ∈ qx_tbl := qx_t3 104 rfl rfl
set_option maxRecDepth 100000 in
theorem t_585 : (Jvm.Cond.methodLink "ChangePlaces$Country" (60 : Nat) ({ cls := "ChangePlaces$Tape", name := "kind", desc := "()I" } : Jvm.MethodName)) ∈ qx_tbl := qx_t3 105 rfl rfl
set_option maxRecDepth 100000 in
theorem t_586 : (Jvm.Cond.instanceMethod ({ cls := "ChangePlaces$Tape", name := "kind", desc := "()I" } : Jvm.MethodName)) ∈ qx_tbl := qx_t3 106 rfl rfl
set_option maxRecDepth 100000 in
theorem t_587 : (Jvm.Cond.selects "ChangePlaces$Tape" ({ cls := "ChangePlaces$Tape", name := "kind", desc := "()I" } : Jvm.MethodName) ({ cls := "ChangePlaces$Tape", name := "kind", desc := "()I" } : Jvm.MethodName)) ∈ qx_tbl := qx_t3 107 rfl rfl
set_option maxRecDepth 100000 in
theorem t_588 : (Jvm.Cond.code ({ cls := "ChangePlaces$Tape", name := "kind", desc := "()I" } : Jvm.MethodName) prog_11_method_11_code (1 : Nat) (Option.some Jvm.ClassFile.FieldType.int)) ∈ qx_tbl := qx_t3 108 rfl rfl
set_option maxRecDepth 100000 in
theorem t_589 : (Jvm.Cond.methodLink "ChangePlaces$Country" (64 : Nat) ({ cls := "ChangePlaces$Country", name := "isClause", desc := "(I)Z" } : Jvm.MethodName)) ∈ qx_tbl := qx_t3 109 rfl rfl
set_option maxRecDepth 100000 in
theorem t_590 : (Jvm.Cond.static ({ cls := "ChangePlaces$Country", name := "isClause", desc := "(I)Z" } : Jvm.MethodName)) ∈ qx_tbl := qx_t3 110 rfl rfl
set_option maxRecDepth 100000 in
theorem t_591 : (Jvm.Cond.code ({ cls := "ChangePlaces$Country", name := "isClause", desc := "(I)Z" } : Jvm.MethodName) prog_3_method_6_code (1 : Nat) (Option.some Jvm.ClassFile.FieldType.boolean)) ∈ qx_tbl := qx_t3 111 rfl rfl
set_option maxRecDepth 100000 in
theorem t_592 : (Jvm.Cond.methodLink "ChangePlaces$Country" (68 : Nat) ({ cls := "ChangePlaces$Tape", name := "fail", desc := "(I)Z" } : Jvm.MethodName)) ∈ qx_tbl := qx_t3 112 rfl rfl
set_option maxRecDepth 100000 in
theorem t_593 : (Jvm.Cond.instanceMethod ({ cls := "ChangePlaces$Tape", name := "fail", desc := "(I)Z" } : Jvm.MethodName)) ∈ qx_tbl := qx_t3 113 rfl rfl
set_option maxRecDepth 100000 in
theorem t_594 : (Jvm.Cond.selects "ChangePlaces$Tape" ({ cls := "ChangePlaces$Tape", name := "fail", desc := "(I)Z" } : Jvm.MethodName) ({ cls := "ChangePlaces$Tape", name := "fail", desc := "(I)Z" } : Jvm.MethodName)) ∈ qx_tbl := qx_t3 114 rfl rfl
set_option maxRecDepth 100000 in
theorem t_595 : (Jvm.Cond.code ({ cls := "ChangePlaces$Tape", name := "fail", desc := "(I)Z" } : Jvm.MethodName) prog_11_method_15_code (2 : Nat) (Option.some Jvm.ClassFile.FieldType.boolean)) ∈ qx_tbl := qx_t3 115 rfl rfl
set_option maxRecDepth 100000 in
theorem t_596 : (Jvm.Cond.methodLink "ChangePlaces$Country" (71 : Nat) ({ cls := "ChangePlaces$Country", name := "mayStand", desc := "(II)Z" } : Jvm.MethodName)) ∈ qx_tbl := qx_t3 116 rfl rfl
set_option maxRecDepth 100000 in
theorem t_598 : (Jvm.Cond.instanceMethod ({ cls := "ChangePlaces$Country", name := "mayStand", desc := "(II)Z" } : Jvm.MethodName)) ∈ qx_tbl := qx_t3 118 rfl rfl
set_option maxRecDepth 100000 in
theorem t_599 : (Jvm.Cond.code ({ cls := "ChangePlaces$Country", name := "mayStand", desc := "(II)Z" } : Jvm.MethodName) prog_3_method_7_code (3 : Nat) (Option.some Jvm.ClassFile.FieldType.boolean)) ∈ qx_tbl := qx_t3 119 rfl rfl
set_option maxRecDepth 100000 in
theorem t_600 : (Jvm.Cond.methodLink "ChangePlaces$Country" (75 : Nat) ({ cls := "ChangePlaces$Tape", name := "pass", desc := "()V" } : Jvm.MethodName)) ∈ qx_tbl := qx_t3 120 rfl rfl
set_option maxRecDepth 100000 in
theorem t_601 : (Jvm.Cond.instanceMethod ({ cls := "ChangePlaces$Tape", name := "pass", desc := "()V" } : Jvm.MethodName)) ∈ qx_tbl := qx_t3 121 rfl rfl
set_option maxRecDepth 100000 in
theorem t_602 : (Jvm.Cond.selects "ChangePlaces$Tape" ({ cls := "ChangePlaces$Tape", name := "pass", desc := "()V" } : Jvm.MethodName) ({ cls := "ChangePlaces$Tape", name := "pass", desc := "()V" } : Jvm.MethodName)) ∈ qx_tbl := qx_t3 122 rfl rfl
set_option maxRecDepth 100000 in
theorem t_603 : (Jvm.Cond.code ({ cls := "ChangePlaces$Tape", name := "pass", desc := "()V" } : Jvm.MethodName) prog_11_method_13_code (1 : Nat) (Option.none : Option Jvm.ClassFile.FieldType)) ∈ qx_tbl := qx_t3 123 rfl rfl
set_option maxRecDepth 100000 in
theorem t_604 : (Jvm.Cond.methodLink "ChangePlaces$Country" (78 : Nat) ({ cls := "ChangePlaces$Country", name := "readClause", desc := "(LChangePlaces$Tape;I)Z" } : Jvm.MethodName)) ∈ qx_tbl := qx_t3 124 rfl rfl
set_option maxRecDepth 100000 in
theorem t_606 : (Jvm.Cond.instanceMethod ({ cls := "ChangePlaces$Country", name := "readClause", desc := "(LChangePlaces$Tape;I)Z" } : Jvm.MethodName)) ∈ qx_tbl := qx_t3 126 rfl rfl
set_option maxRecDepth 100000 in
theorem t_607 : (Jvm.Cond.code ({ cls := "ChangePlaces$Country", name := "readClause", desc := "(LChangePlaces$Tape;I)Z" } : Jvm.MethodName) prog_3_method_8_code (3 : Nat) (Option.some Jvm.ClassFile.FieldType.boolean)) ∈ qx_tbl := qx_t3 127 rfl rfl
set_option maxRecDepth 100000 in
theorem t_608 : (Jvm.Cond.methodLink "ChangePlaces$Country" (85 : Nat) ({ cls := "ChangePlaces$Country", name := "readPlaces", desc := "(LChangePlaces$Tape;)Z" } : Jvm.MethodName)) ∈ qx_tbl := qx_t3 128 rfl rfl
set_option maxRecDepth 100000 in
theorem t_610 : (Jvm.Cond.instanceMethod ({ cls := "ChangePlaces$Country", name := "readPlaces", desc := "(LChangePlaces$Tape;)Z" } : Jvm.MethodName)) ∈ qx_tbl := qx_t3 130 rfl rfl
set_option maxRecDepth 100000 in
theorem t_611 : (Jvm.Cond.code ({ cls := "ChangePlaces$Country", name := "readPlaces", desc := "(LChangePlaces$Tape;)Z" } : Jvm.MethodName) prog_3_method_10_code (2 : Nat) (Option.some Jvm.ClassFile.FieldType.boolean)) ∈ qx_tbl := qx_t3 131 rfl rfl
set_option maxRecDepth 100000 in
theorem t_612 : (Jvm.Cond.methodLink "ChangePlaces$Country" (104 : Nat) ({ cls := "ChangePlaces$Country", name := "readNumber", desc := "(LChangePlaces$Tape;II)Z" } : Jvm.MethodName)) ∈ qx_tbl := qx_t3 132 rfl rfl
set_option maxRecDepth 100000 in
theorem t_614 : (Jvm.Cond.instanceMethod ({ cls := "ChangePlaces$Country", name := "readNumber", desc := "(LChangePlaces$Tape;II)Z" } : Jvm.MethodName)) ∈ qx_tbl := qx_t3 134 rfl rfl
set_option maxRecDepth 100000 in
theorem t_615 : (Jvm.Cond.code ({ cls := "ChangePlaces$Country", name := "readNumber", desc := "(LChangePlaces$Tape;II)Z" } : Jvm.MethodName) prog_3_method_9_code (5 : Nat) (Option.some Jvm.ClassFile.FieldType.boolean)) ∈ qx_tbl := qx_t3 135 rfl rfl
set_option maxRecDepth 100000 in
theorem t_616 : (Jvm.Cond.methodLink "ChangePlaces$Country" (101 : Nat) ({ cls := "ChangePlaces$Tape", name := "number", desc := "()I" } : Jvm.MethodName)) ∈ qx_tbl := qx_t3 136 rfl rfl
set_option maxRecDepth 100000 in
theorem t_617 : (Jvm.Cond.instanceMethod ({ cls := "ChangePlaces$Tape", name := "number", desc := "()I" } : Jvm.MethodName)) ∈ qx_tbl := qx_t3 137 rfl rfl
set_option maxRecDepth 100000 in
theorem t_618 : (Jvm.Cond.selects "ChangePlaces$Tape" ({ cls := "ChangePlaces$Tape", name := "number", desc := "()I" } : Jvm.MethodName) ({ cls := "ChangePlaces$Tape", name := "number", desc := "()I" } : Jvm.MethodName)) ∈ qx_tbl := qx_t3 138 rfl rfl
set_option maxRecDepth 100000 in
theorem t_619 : (Jvm.Cond.code ({ cls := "ChangePlaces$Tape", name := "number", desc := "()I" } : Jvm.MethodName) prog_11_method_12_code (1 : Nat) (Option.some Jvm.ClassFile.FieldType.int)) ∈ qx_tbl := qx_t3 139 rfl rfl
set_option maxRecDepth 100000 in
theorem t_620 : (Jvm.Cond.methodLink "ChangePlaces$Country" (89 : Nat) ({ cls := "ChangePlaces$Country", name := "readPerson", desc := "(LChangePlaces$Tape;)Z" } : Jvm.MethodName)) ∈ qx_tbl := qx_t3 140 rfl rfl
set_option maxRecDepth 100000 in
theorem t_622 : (Jvm.Cond.instanceMethod ({ cls := "ChangePlaces$Country", name := "readPerson", desc := "(LChangePlaces$Tape;)Z" } : Jvm.MethodName)) ∈ qx_tbl := qx_t3 142 rfl rfl
set_option maxRecDepth 100000 in
theorem t_623 : (Jvm.Cond.code ({ cls := "ChangePlaces$Country", name := "readPerson", desc := "(LChangePlaces$Tape;)Z" } : Jvm.MethodName) prog_3_method_11_code (2 : Nat) (Option.some Jvm.ClassFile.FieldType.boolean)) ∈ qx_tbl := qx_t3 143 rfl rfl
set_option maxRecDepth 100000 in
theorem t_624 : (Jvm.Cond.methodLink "ChangePlaces$Country" (92 : Nat) ({ cls := "ChangePlaces$Country", name := "readWish", desc := "(LChangePlaces$Tape;)Z" } : Jvm.MethodName)) ∈ qx_tbl := qx_t3 144 rfl rfl
set_option maxRecDepth 100000 in
theorem t_626 : (Jvm.Cond.instanceMethod ({ cls := "ChangePlaces$Country", name := "readWish", desc := "(LChangePlaces$Tape;)Z" } : Jvm.MethodName)) ∈ qx_tbl := qx_t3 146 rfl rfl
set_option maxRecDepth 100000 in
theorem t_627 : (Jvm.Cond.code ({ cls := "ChangePlaces$Country", name := "readWish", desc := "(LChangePlaces$Tape;)Z" } : Jvm.MethodName) prog_3_method_12_code (4 : Nat) (Option.some Jvm.ClassFile.FieldType.boolean)) ∈ qx_tbl := qx_t3 147 rfl rfl
set_option maxRecDepth 100000 in
theorem t_628 : (Jvm.Cond.methodLink "ChangePlaces$Country" (95 : Nat) ({ cls := "ChangePlaces$Country", name := "readBench", desc := "(LChangePlaces$Tape;)Z" } : Jvm.MethodName)) ∈ qx_tbl := qx_t3 148 rfl rfl
set_option maxRecDepth 100000 in
theorem t_630 : (Jvm.Cond.instanceMethod ({ cls := "ChangePlaces$Country", name := "readBench", desc := "(LChangePlaces$Tape;)Z" } : Jvm.MethodName)) ∈ qx_tbl := qx_t3 150 rfl rfl
set_option maxRecDepth 100000 in
theorem t_631 : (Jvm.Cond.code ({ cls := "ChangePlaces$Country", name := "readBench", desc := "(LChangePlaces$Tape;)Z" } : Jvm.MethodName) prog_3_method_13_code (2 : Nat) (Option.some Jvm.ClassFile.FieldType.boolean)) ∈ qx_tbl := qx_t3 151 rfl rfl
set_option maxRecDepth 100000 in
theorem t_632 : (Jvm.Cond.methodLink "ChangePlaces$Country" (98 : Nat) ({ cls := "ChangePlaces$Country", name := "readCall", desc := "(LChangePlaces$Tape;)Z" } : Jvm.MethodName)) ∈ qx_tbl := qx_t3 152 rfl rfl
set_option maxRecDepth 100000 in
theorem t_634 : (Jvm.Cond.instanceMethod ({ cls := "ChangePlaces$Country", name := "readCall", desc := "(LChangePlaces$Tape;)Z" } : Jvm.MethodName)) ∈ qx_tbl := qx_t3 154 rfl rfl
set_option maxRecDepth 100000 in
theorem t_635 : (Jvm.Cond.code ({ cls := "ChangePlaces$Country", name := "readCall", desc := "(LChangePlaces$Tape;)Z" } : Jvm.MethodName) prog_3_method_14_code (2 : Nat) (Option.some Jvm.ClassFile.FieldType.boolean)) ∈ qx_tbl := qx_t3 155 rfl rfl
set_option maxRecDepth 100000 in
theorem t_636 : (Jvm.Cond.methodLink "ChangePlaces$Country" (82 : Nat) ({ cls := "ChangePlaces$Tape", name := "take", desc := "(I)Z" } : Jvm.MethodName)) ∈ qx_tbl := qx_t3 156 rfl rfl
set_option maxRecDepth 100000 in
theorem t_637 : (Jvm.Cond.instanceMethod ({ cls := "ChangePlaces$Tape", name := "take", desc := "(I)Z" } : Jvm.MethodName)) ∈ qx_tbl := qx_t3 157 rfl rfl
set_option maxRecDepth 100000 in
theorem t_638 : (Jvm.Cond.selects "ChangePlaces$Tape" ({ cls := "ChangePlaces$Tape", name := "take", desc := "(I)Z" } : Jvm.MethodName) ({ cls := "ChangePlaces$Tape", name := "take", desc := "(I)Z" } : Jvm.MethodName)) ∈ qx_tbl := qx_t3 158 rfl rfl
set_option maxRecDepth 100000 in
theorem t_639 : (Jvm.Cond.code ({ cls := "ChangePlaces$Tape", name := "take", desc := "(I)Z" } : Jvm.MethodName) prog_11_method_14_code (2 : Nat) (Option.some Jvm.ClassFile.FieldType.boolean)) ∈ qx_tbl := qx_t3 159 rfl rfl
set_option maxRecDepth 100000 in
theorem t_640 : (Jvm.Cond.methodLink "ChangePlaces$Tape" (74 : Nat) ({ cls := "ChangePlaces$Tape", name := "kind", desc := "()I" } : Jvm.MethodName)) ∈ qx_tbl := qx_t3 160 rfl rfl
set_option maxRecDepth 100000 in
theorem t_641 : (Jvm.Cond.methodLink "ChangePlaces$Tape" (77 : Nat) ({ cls := "ChangePlaces$Tape", name := "pass", desc := "()V" } : Jvm.MethodName)) ∈ qx_tbl := qx_t3 161 rfl rfl
set_option maxRecDepth 100000 in
theorem t_642 : (Jvm.Cond.methodLink "ChangePlaces" (131 : Nat) ({ cls := "ChangePlaces$State", name := "beginIn", desc := "(LChangePlaces$Country;)V" } : Jvm.MethodName)) ∈ qx_tbl := qx_t3 162 rfl rfl
set_option maxRecDepth 100000 in
theorem t_643 : (Jvm.Cond.instanceMethod ({ cls := "ChangePlaces$State", name := "beginIn", desc := "(LChangePlaces$Country;)V" } : Jvm.MethodName)) ∈ qx_tbl := qx_t3 163 rfl rfl
set_option maxRecDepth 100000 in
theorem t_644 : (Jvm.Cond.selects "ChangePlaces$State" ({ cls := "ChangePlaces$State", name := "beginIn", desc := "(LChangePlaces$Country;)V" } : Jvm.MethodName) ({ cls := "ChangePlaces$State", name := "beginIn", desc := "(LChangePlaces$Country;)V" } : Jvm.MethodName)) ∈ qx_tbl := qx_t3 164 rfl rfl
set_option maxRecDepth 100000 in
theorem t_645 : (Jvm.Cond.code ({ cls := "ChangePlaces$State", name := "beginIn", desc := "(LChangePlaces$Country;)V" } : Jvm.MethodName) prog_10_method_2_code (2 : Nat) (Option.none : Option Jvm.ClassFile.FieldType)) ∈ qx_tbl := qx_t3 165 rfl rfl
set_option maxRecDepth 100000 in
theorem t_646 : (Jvm.Cond.methodLink "ChangePlaces$State" (66 : Nat) ({ cls := "ChangePlaces$Country", name := "copyFrom", desc := "(LChangePlaces$Country;)V" } : Jvm.MethodName)) ∈ qx_tbl := qx_t3 166 rfl rfl
set_option maxRecDepth 100000 in
theorem t_647 : (Jvm.Cond.instanceMethod ({ cls := "ChangePlaces$Country", name := "copyFrom", desc := "(LChangePlaces$Country;)V" } : Jvm.MethodName)) ∈ qx_tbl := qx_t3 167 rfl rfl
set_option maxRecDepth 100000 in
theorem t_648 : (Jvm.Cond.selects "ChangePlaces$Country" ({ cls := "ChangePlaces$Country", name := "copyFrom", desc := "(LChangePlaces$Country;)V" } : Jvm.MethodName) ({ cls := "ChangePlaces$Country", name := "copyFrom", desc := "(LChangePlaces$Country;)V" } : Jvm.MethodName)) ∈ qx_tbl := qx_t3 168 rfl rfl
set_option maxRecDepth 100000 in
theorem t_649 : (Jvm.Cond.code ({ cls := "ChangePlaces$Country", name := "copyFrom", desc := "(LChangePlaces$Country;)V" } : Jvm.MethodName) prog_3_method_3_code (2 : Nat) (Option.none : Option Jvm.ClassFile.FieldType)) ∈ qx_tbl := qx_t3 169 rfl rfl
set_option maxRecDepth 100000 in
theorem t_650 : (Jvm.Cond.methodLink "ChangePlaces$Country" (40 : Nat) ({ cls := "java/lang/System", name := "arraycopy", desc := "(Ljava/lang/Object;ILjava/lang/Object;II)V" } : Jvm.MethodName)) ∈ qx_tbl := qx_t3 170 rfl rfl
set_option maxRecDepth 100000 in
theorem t_651 : (Jvm.Cond.static ({ cls := "java/lang/System", name := "arraycopy", desc := "(Ljava/lang/Object;ILjava/lang/Object;II)V" } : Jvm.MethodName)) ∈ qx_tbl := qx_t3 171 rfl rfl
set_option maxRecDepth 100000 in
theorem t_652 : (Jvm.Cond.native ({ cls := "java/lang/System", name := "arraycopy", desc := "(Ljava/lang/Object;ILjava/lang/Object;II)V" } : Jvm.MethodName)) ∈ qx_tbl := qx_t3 172 rfl rfl
set_option maxRecDepth 100000 in
theorem t_653 : (Jvm.Cond.methodLink "ChangePlaces$State" (73 : Nat) ({ cls := "ChangePlaces$Standing", name := "beginAt", desc := "([I)V" } : Jvm.MethodName)) ∈ qx_tbl := qx_t3 173 rfl rfl
set_option maxRecDepth 100000 in
theorem t_654 : (Jvm.Cond.instanceMethod ({ cls := "ChangePlaces$Standing", name := "beginAt", desc := "([I)V" } : Jvm.MethodName)) ∈ qx_tbl := qx_t3 174 rfl rfl
set_option maxRecDepth 100000 in
theorem t_655 : (Jvm.Cond.selects "ChangePlaces$Standing" ({ cls := "ChangePlaces$Standing", name := "beginAt", desc := "([I)V" } : Jvm.MethodName) ({ cls := "ChangePlaces$Standing", name := "beginAt", desc := "([I)V" } : Jvm.MethodName)) ∈ qx_tbl := qx_t3 175 rfl rfl
set_option maxRecDepth 100000 in
theorem t_656 : (Jvm.Cond.code ({ cls := "ChangePlaces$Standing", name := "beginAt", desc := "([I)V" } : Jvm.MethodName) prog_9_method_3_code (2 : Nat) (Option.none : Option Jvm.ClassFile.FieldType)) ∈ qx_tbl := qx_t3 176 rfl rfl
set_option maxRecDepth 100000 in
theorem t_657 : (Jvm.Cond.methodLink "ChangePlaces$Standing" (31 : Nat) ({ cls := "java/lang/System", name := "arraycopy", desc := "(Ljava/lang/Object;ILjava/lang/Object;II)V" } : Jvm.MethodName)) ∈ qx_tbl := qx_t3 177 rfl rfl
set_option maxRecDepth 100000 in
theorem t_658 : (Jvm.Cond.methodLink "ChangePlaces$Standing" (37 : Nat) ({ cls := "java/util/Arrays", name := "fill", desc := "([II)V" } : Jvm.MethodName)) ∈ qx_tbl := qx_t3 178 rfl rfl
set_option maxRecDepth 100000 in
theorem t_659 : (Jvm.Cond.methodLink "ChangePlaces" (135 : Nat) ({ cls := "ChangePlaces", name := "stir", desc := "()V" } : Jvm.MethodName)) ∈ qx_tbl := qx_t3 179 rfl rfl
set_option maxRecDepth 100000 in
theorem t_661 : (Jvm.Cond.instanceMethod ({ cls := "ChangePlaces", name := "stir", desc := "()V" } : Jvm.MethodName)) ∈ qx_tbl := qx_t3 181 rfl rfl
set_option maxRecDepth 100000 in
theorem t_662 : (Jvm.Cond.code ({ cls := "ChangePlaces", name := "stir", desc := "()V" } : Jvm.MethodName) prog_1_method_47_code (2 : Nat) (Option.none : Option Jvm.ClassFile.FieldType)) ∈ qx_tbl := qx_t3 182 rfl rfl
set_option maxRecDepth 100000 in
theorem t_663 : (Jvm.Cond.methodLink "ChangePlaces" (396 : Nat) ({ cls := "ChangePlaces$Laws", name := "renew", desc := "(LChangePlaces$Rule;)V" } : Jvm.MethodName)) ∈ qx_tbl := qx_t3 183 rfl rfl
set_option maxRecDepth 100000 in
theorem t_664 : (Jvm.Cond.instanceMethod ({ cls := "ChangePlaces$Laws", name := "renew", desc := "(LChangePlaces$Rule;)V" } : Jvm.MethodName)) ∈ qx_tbl := qx_t3 184 rfl rfl
set_option maxRecDepth 100000 in
theorem t_665 : (Jvm.Cond.selects "ChangePlaces$Laws" ({ cls := "ChangePlaces$Laws", name := "renew", desc := "(LChangePlaces$Rule;)V" } : Jvm.MethodName) ({ cls := "ChangePlaces$Laws", name := "renew", desc := "(LChangePlaces$Rule;)V" } : Jvm.MethodName)) ∈ qx_tbl := qx_t3 185 rfl rfl
set_option maxRecDepth 100000 in
theorem t_666 : (Jvm.Cond.code ({ cls := "ChangePlaces$Laws", name := "renew", desc := "(LChangePlaces$Rule;)V" } : Jvm.MethodName) prog_4_method_2_code (2 : Nat) (Option.none : Option Jvm.ClassFile.FieldType)) ∈ qx_tbl := qx_t3 186 rfl rfl
set_option maxRecDepth 100000 in
theorem t_667 : (Jvm.Cond.methodLink "ChangePlacesLaw" (28 : Nat) ({ cls := "ChangePlaces", name := "rule", desc := "()I" } : Jvm.MethodName)) ∈ qx_tbl := qx_t3 187 rfl rfl
set_option maxRecDepth 100000 in
theorem t_668 : (Jvm.Cond.instanceMethod ({ cls := "ChangePlaces", name := "rule", desc := "()I" } : Jvm.MethodName)) ∈ qx_tbl := qx_t3 188 rfl rfl
set_option maxRecDepth 100000 in
theorem t_669 : (Jvm.Cond.selects "ChangePlaces" ({ cls := "ChangePlaces", name := "rule", desc := "()I" } : Jvm.MethodName) ({ cls := "ChangePlaces", name := "rule", desc := "()I" } : Jvm.MethodName)) ∈ qx_tbl := qx_t3 189 rfl rfl
set_option maxRecDepth 100000 in
theorem t_670 : (Jvm.Cond.code ({ cls := "ChangePlaces", name := "rule", desc := "()I" } : Jvm.MethodName) prog_1_method_5_code (2 : Nat) (Option.some Jvm.ClassFile.FieldType.int)) ∈ qx_tbl := qx_t3 190 rfl rfl
set_option maxRecDepth 100000 in
theorem t_671 : (Jvm.Cond.methodLink "ChangePlaces" (141 : Nat) ({ cls := "ChangePlaces$Rule", name := "readFrom", desc := "(LChangePlaces$Tape;)Z" } : Jvm.MethodName)) ∈ qx_tbl := qx_t3 191 rfl rfl
set_option maxRecDepth 100000 in
theorem t_672 : (Jvm.Cond.instanceMethod ({ cls := "ChangePlaces$Rule", name := "readFrom", desc := "(LChangePlaces$Tape;)Z" } : Jvm.MethodName)) ∈ qx_tbl := qx_t3 192 rfl rfl
set_option maxRecDepth 100000 in
theorem t_673 : (Jvm.Cond.selects "ChangePlaces$Rule" ({ cls := "ChangePlaces$Rule", name := "readFrom", desc := "(LChangePlaces$Tape;)Z" } : Jvm.MethodName) ({ cls := "ChangePlaces$Rule", name := "readFrom", desc := "(LChangePlaces$Tape;)Z" } : Jvm.MethodName)) ∈ qx_tbl := qx_t3 193 rfl rfl
set_option maxRecDepth 100000 in
theorem t_674 : (Jvm.Cond.code ({ cls := "ChangePlaces$Rule", name := "readFrom", desc := "(LChangePlaces$Tape;)Z" } : Jvm.MethodName) prog_7_method_2_code (4 : Nat) (Option.some Jvm.ClassFile.FieldType.boolean)) ∈ qx_tbl := qx_t3 194 rfl rfl
set_option maxRecDepth 100000 in
theorem t_675 : (Jvm.Cond.methodLink "ChangePlaces$Rule" (42 : Nat) ({ cls := "ChangePlaces$Tape", name := "cut", desc := "()V" } : Jvm.MethodName)) ∈ qx_tbl := qx_t3 195 rfl rfl
set_option maxRecDepth 100000 in
theorem t_676 : (Jvm.Cond.methodLink "ChangePlaces$Rule" (47 : Nat) ({ cls := "ChangePlaces$Tape", name := "kind", desc := "()I" } : Jvm.MethodName)) ∈ qx_tbl := qx_t3 196 rfl rfl
set_option maxRecDepth 100000 in
theorem t_677 : (Jvm.Cond.methodLink "ChangePlaces$Rule" (51 : Nat) ({ cls := "ChangePlaces$Tape", name := "fail", desc := "(I)Z" } : Jvm.MethodName)) ∈ qx_tbl := qx_t3 197 rfl rfl
set_option maxRecDepth 100000 in
theorem t_678 : (Jvm.Cond.methodLink "ChangePlaces$Rule" (55 : Nat) ({ cls := "ChangePlaces$Tape", name := "pass", desc := "()V" } : Jvm.MethodName)) ∈ qx_tbl := qx_t3 198 rfl rfl
set_option maxRecDepth 100000 in
theorem t_679 : (Jvm.Cond.methodLink "ChangePlaces$Rule" (58 : Nat) ({ cls := "ChangePlaces$Rule", name := "readClause", desc := "(LChangePlaces$Tape;Z)Z" } : Jvm.MethodName)) ∈ qx_tbl := qx_t3 199 rfl rfl
set_option maxRecDepth 100000 in
theorem t_681 : (Jvm.Cond.instanceMethod ({ cls := "ChangePlaces$Rule", name := "readClause", desc := "(LChangePlaces$Tape;Z)Z" } : Jvm.MethodName)) ∈ qx_tbl := qx_t3 201 rfl rfl
set_option maxRecDepth 100000 in
theorem t_682 : (Jvm.Cond.code ({ cls := "ChangePlaces$Rule", name := "readClause", desc := "(LChangePlaces$Tape;Z)Z" } : Jvm.MethodName) prog_7_method_3_code (3 : Nat) (Option.some Jvm.ClassFile.FieldType.boolean)) ∈ qx_tbl := qx_t3 202 rfl rfl
set_option maxRecDepth 100000 in
theorem t_683 : (Jvm.Cond.methodLink "ChangePlaces$Rule" (65 : Nat) ({ cls := "ChangePlaces$Rule", name := "readSum", desc := "(LChangePlaces$Tape;)Z" } : Jvm.MethodName)) ∈ qx_tbl := qx_t3 203 rfl rfl
set_option maxRecDepth 100000 in
theorem t_685 : (Jvm.Cond.instanceMethod ({ cls := "ChangePlaces$Rule", name := "readSum", desc := "(LChangePlaces$Tape;)Z" } : Jvm.MethodName)) ∈ qx_tbl := qx_t3 205 rfl rfl
set_option maxRecDepth 100000 in
theorem t_686 : (Jvm.Cond.code ({ cls := "ChangePlaces$Rule", name := "readSum", desc := "(LChangePlaces$Tape;)Z" } : Jvm.MethodName) prog_7_method_10_code (5 : Nat) (Option.some Jvm.ClassFile.FieldType.boolean)) ∈ qx_tbl := qx_t3 206 rfl rfl
set_option maxRecDepth 100000 in
theorem t_687 : (Jvm.Cond.methodLink "ChangePlaces$Rule" (98 : Nat) ({ cls := "ChangePlaces$Rule", name := "readValue", desc := "(LChangePlaces$Tape;)Z" } : Jvm.MethodName)) ∈ qx_tbl := qx_t3 207 rfl rfl
set_option maxRecDepth 100000 in
theorem t_689 : (Jvm.Cond.instanceMethod ({ cls := "ChangePlaces$Rule", name := "readValue", desc := "(LChangePlaces$Tape;)Z" } : Jvm.MethodName)) ∈ qx_tbl := qx_t3 209 rfl rfl
set_option maxRecDepth 100000 in
theorem t_690 : (Jvm.Cond.code ({ cls := "ChangePlaces$Rule", name := "readValue", desc := "(LChangePlaces$Tape;)Z" } : Jvm.MethodName) prog_7_method_11_code (4 : Nat) (Option.some Jvm.ClassFile.FieldType.boolean)) ∈ qx_tbl := qx_t3 210 rfl rfl
set_option maxRecDepth 100000 in
theorem t_691 : (Jvm.Cond.constant "ChangePlaces$Rule" (105 : Nat) (100000 : Int32)) ∈ qx_tbl := qx_t3 211 rfl rfl
set_option maxRecDepth 100000 in
theorem t_692 : (Jvm.Cond.methodLink "ChangePlaces$Rule" (106 : Nat) ({ cls := "ChangePlaces$Tape", name := "number", desc := "()I" } : Jvm.MethodName)) ∈ qx_tbl := qx_t3 212 rfl rfl
set_option maxRecDepth 100000 in
theorem t_693 : (Jvm.Cond.methodLink "ChangePlaces$Rule" (76 : Nat) ({ cls := "ChangePlaces$Rule", name := "step", desc := "(I)V" } : Jvm.MethodName)) ∈ qx_tbl := qx_t3 213 rfl rfl
set_option maxRecDepth 100000 in
theorem t_695 : (Jvm.Cond.instanceMethod ({ cls := "ChangePlaces$Rule", name := "step", desc := "(I)V" } : Jvm.MethodName)) ∈ qx_tbl := qx_t3 215 rfl rfl
set_option maxRecDepth 100000 in
theorem t_696 : (Jvm.Cond.code ({ cls := "ChangePlaces$Rule", name := "step", desc := "(I)V" } : Jvm.MethodName) prog_7_method_4_code (2 : Nat) (Option.none : Option Jvm.ClassFile.FieldType)) ∈ qx_tbl := qx_t3 216 rfl rfl
set_option maxRecDepth 100000 in
theorem t_697 : (Jvm.Cond.methodLink "ChangePlaces$Rule" (62 : Nat) ({ cls := "ChangePlaces$Tape", name := "take", desc := "(I)Z" } : Jvm.MethodName)) ∈ qx_tbl := qx_t3 217 rfl rfl
set_option maxRecDepth 100000 in
theorem t_698 : (Jvm.Cond.constant "ChangePlaces$Rule" (101 : Nat) (100014 : Int32)) ∈ qx_tbl := qx_t3 218 rfl rfl
set_option maxRecDepth 100000 in
theorem t_699 : (Jvm.Cond.constant "ChangePlaces$Rule" (102 : Nat) (100015 : Int32)) ∈ qx_tbl := qx_t3 219 rfl rfl
set_option maxRecDepth 100000 in
theorem t_700 : (Jvm.Cond.constant "ChangePlaces$Rule" (103 : Nat) (100012 : Int32)) ∈ qx_tbl := qx_t3 220 rfl rfl
set_option maxRecDepth 100000 in
theorem t_701 : (Jvm.Cond.constant "ChangePlaces$Rule" (104 : Nat) (100013 : Int32)) ∈ qx_tbl := qx_t3 221 rfl rfl
set_option maxRecDepth 100000 in
theorem t_702 : (Jvm.Cond.methodLink "ChangePlaces$Rule" (69 : Nat) ({ cls := "ChangePlaces$Rule", name := "readTest", desc := "(LChangePlaces$Tape;I)Z" } : Jvm.MethodName)) ∈ qx_tbl := qx_t3 222 rfl rfl
set_option maxRecDepth 100000 in
theorem t_704 : (Jvm.Cond.instanceMethod ({ cls := "ChangePlaces$Rule", name := "readTest", desc := "(LChangePlaces$Tape;I)Z" } : Jvm.MethodName)) ∈ qx_tbl := qx_t3 224 rfl rfl
set_option maxRecDepth 100000 in
theorem t_705 : (Jvm.Cond.code ({ cls := "ChangePlaces$Rule", name := "readTest", desc := "(LChangePlaces$Tape;I)Z" } : Jvm.MethodName) prog_7_method_5_code (6 : Nat) (Option.some Jvm.ClassFile.FieldType.boolean)) ∈ qx_tbl := qx_t3 225 rfl rfl
set_option maxRecDepth 100000 in
theorem t_706 : (Jvm.Cond.methodLink "ChangePlaces$Rule" (73 : Nat) ({ cls := "ChangePlaces$Rule", name := "readFact", desc := "(LChangePlaces$Tape;I)Z" } : Jvm.MethodName)) ∈ qx_tbl := qx_t3 226 rfl rfl
set_option maxRecDepth 100000 in
theorem t_708 : (Jvm.Cond.instanceMethod ({ cls := "ChangePlaces$Rule", name := "readFact", desc := "(LChangePlaces$Tape;I)Z" } : Jvm.MethodName)) ∈ qx_tbl := qx_t3 228 rfl rfl
set_option maxRecDepth 100000 in
theorem t_709 : (Jvm.Cond.code ({ cls := "ChangePlaces$Rule", name := "readFact", desc := "(LChangePlaces$Tape;I)Z" } : Jvm.MethodName) prog_7_method_6_code (5 : Nat) (Option.some Jvm.ClassFile.FieldType.boolean)) ∈ qx_tbl := qx_t3 229 rfl rfl
set_option maxRecDepth 100000 in
theorem t_710 : (Jvm.Cond.methodLink "ChangePlaces$Rule" (82 : Nat) ({ cls := "ChangePlaces$Rule", name := "readBracket", desc := "(LChangePlaces$Tape;I)Z" } : Jvm.MethodName)) ∈ qx_tbl := qx_t3 230 rfl rfl
set_option maxRecDepth 100000 in
theorem t_712 : (Jvm.Cond.instanceMethod ({ cls := "ChangePlaces$Rule", name := "readBracket", desc := "(LChangePlaces$Tape;I)Z" } : Jvm.MethodName)) ∈ qx_tbl := qx_t3 232 rfl rfl
set_option maxRecDepth 100000 in
theorem t_713 : (Jvm.Cond.code ({ cls := "ChangePlaces$Rule", name := "readBracket", desc := "(LChangePlaces$Tape;I)Z" } : Jvm.MethodName) prog_7_method_7_code (3 : Nat) (Option.some Jvm.ClassFile.FieldType.boolean)) ∈ qx_tbl := qx_t3 233 rfl rfl
set_option maxRecDepth 100000 in
theorem t_714 : (Jvm.Cond.methodLink "ChangePlaces$Rule" (85 : Nat) ({ cls := "ChangePlaces$Rule", name := "readNot", desc := "(LChangePlaces$Tape;I)Z" } : Jvm.MethodName)) ∈ qx_tbl := qx_t3 234 rfl rfl
set_option maxRecDepth 100000 in
theorem t_716 : (Jvm.Cond.instanceMethod ({ cls := "ChangePlaces$Rule", name := "readNot", desc := "(LChangePlaces$Tape;I)Z" } : Jvm.MethodName)) ∈ qx_tbl := qx_t3 236 rfl rfl
set_option maxRecDepth 100000 in
theorem t_717 : (Jvm.Cond.code ({ cls := "ChangePlaces$Rule", name := "readNot", desc := "(LChangePlaces$Tape;I)Z" } : Jvm.MethodName) prog_7_method_8_code (3 : Nat) (Option.some Jvm.ClassFile.FieldType.boolean)) ∈ qx_tbl := qx_t3 237 rfl rfl
set_option maxRecDepth 100000 in
theorem t_718 : (Jvm.Cond.constant "ChangePlaces$Rule" (92 : Nat) (100021 : Int32)) ∈ qx_tbl := qx_t3 238 rfl rfl
set_option maxRecDepth 100000 in
theorem t_719 : (Jvm.Cond.methodLink "ChangePlaces$Rule" (88 : Nat) ({ cls := "ChangePlaces$Rule", name := "comparison", desc := "(I)I" } : Jvm.MethodName)) ∈ qx_tbl := qx_t3 239 rfl rfl
set_option maxRecDepth 100000 in
theorem t_720 : (Jvm.Cond.static ({ cls := "ChangePlaces$Rule", name := "comparison", desc := "(I)I" } : Jvm.MethodName)) ∈ qx_tbl := qx_t4 0 rfl rfl
set_option maxRecDepth 100000 in
theorem t_721 : (Jvm.Cond.code ({ cls := "ChangePlaces$Rule", name := "comparison", desc := "(I)I" } : Jvm.MethodName) prog_7_method_9_code (1 : Nat) (Option.some Jvm.ClassFile.FieldType.int)) ∈ qx_tbl := qx_t4 1 rfl rfl
set_option maxRecDepth 100000 in
theorem t_722 : (Jvm.Cond.constant "ChangePlaces$Rule" (93 : Nat) (100016 : Int32)) ∈ qx_tbl := qx_t4 2 rfl rfl
set_option maxRecDepth 100000 in
theorem t_723 : (Jvm.Cond.constant "ChangePlaces$Rule" (94 : Nat) (100017 : Int32)) ∈ qx_tbl := qx_t4 3 rfl rfl
set_option maxRecDepth 100000 in
theorem t_724 : (Jvm.Cond.constant "ChangePlaces$Rule" (95 : Nat) (100018 : Int32)) ∈ qx_tbl := qx_t4 4 rfl rfl
set_option maxRecDepth 100000 in
theorem t_725 : (Jvm.Cond.constant "ChangePlaces$Rule" (96 : Nat) (100019 : Int32)) ∈ qx_tbl := qx_t4 5 rfl rfl
set_option maxRecDepth 100000 in
theorem t_726 : (Jvm.Cond.constant "ChangePlaces$Rule" (97 : Nat) (100020 : Int32)) ∈ qx_tbl := qx_t4 6 rfl rfl
set_option maxRecDepth 100000 in
theorem t_727 : (Jvm.Cond.constant "ChangePlaces$Rule" (80 : Nat) (100022 : Int32)) ∈ qx_tbl := qx_t4 7 rfl rfl
set_option maxRecDepth 100000 in
theorem t_728 : (Jvm.Cond.constant "ChangePlaces$Rule" (81 : Nat) (100023 : Int32)) ∈ qx_tbl := qx_t4 8 rfl rfl
set_option maxRecDepth 100000 in
theorem t_729 : (Jvm.Cond.methodLink "ChangePlacesLaw" (32 : Nat) ({ cls := "ChangePlaces", name := "force", desc := "(I)I" } : Jvm.MethodName)) ∈ qx_tbl := qx_t4 9 rfl rfl
set_option maxRecDepth 100000 in
theorem t_730 : (Jvm.Cond.instanceMethod ({ cls := "ChangePlaces", name := "force", desc := "(I)I" } : Jvm.MethodName)) ∈ qx_tbl := qx_t4 10 rfl rfl
set_option maxRecDepth 100000 in
theorem t_731 : (Jvm.Cond.selects "ChangePlaces" ({ cls := "ChangePlaces", name := "force", desc := "(I)I" } : Jvm.MethodName) ({ cls := "ChangePlaces", name := "force", desc := "(I)I" } : Jvm.MethodName)) ∈ qx_tbl := qx_t4 11 rfl rfl
set_option maxRecDepth 100000 in
theorem t_732 : (Jvm.Cond.code ({ cls := "ChangePlaces", name := "force", desc := "(I)I" } : Jvm.MethodName) prog_1_method_6_code (3 : Nat) (Option.some Jvm.ClassFile.FieldType.int)) ∈ qx_tbl := qx_t4 12 rfl rfl
set_option maxRecDepth 100000 in
theorem t_733 : (Jvm.Cond.methodLink "ChangePlacesLaw" (36 : Nat) ({ cls := "ChangePlaces", name := "person", desc := "(II)I" } : Jvm.MethodName)) ∈ qx_tbl := qx_t4 13 rfl rfl
set_option maxRecDepth 100000 in
theorem t_734 : (Jvm.Cond.instanceMethod ({ cls := "ChangePlaces", name := "person", desc := "(II)I" } : Jvm.MethodName)) ∈ qx_tbl := qx_t4 14 rfl rfl
set_option maxRecDepth 100000 in
theorem t_735 : (Jvm.Cond.selects "ChangePlaces" ({ cls := "ChangePlaces", name := "person", desc := "(II)I" } : Jvm.MethodName) ({ cls := "ChangePlaces", name := "person", desc := "(II)I" } : Jvm.MethodName)) ∈ qx_tbl := qx_t4 15 rfl rfl
set_option maxRecDepth 100000 in
theorem t_736 : (Jvm.Cond.code ({ cls := "ChangePlaces", name := "person", desc := "(II)I" } : Jvm.MethodName) prog_1_method_7_code (3 : Nat) (Option.some Jvm.ClassFile.FieldType.int)) ∈ qx_tbl := qx_t4 16 rfl rfl
set_option maxRecDepth 100000 in
theorem t_737 : (Jvm.Cond.methodLink "ChangePlaces" (145 : Nat) ({ cls := "ChangePlaces", name := "isPerson", desc := "(I)Z" } : Jvm.MethodName)) ∈ qx_tbl := qx_t4 17 rfl rfl
set_option maxRecDepth 100000 in
theorem t_739 : (Jvm.Cond.instanceMethod ({ cls := "ChangePlaces", name := "isPerson", desc := "(I)Z" } : Jvm.MethodName)) ∈ qx_tbl := qx_t4 19 rfl rfl
set_option maxRecDepth 100000 in
theorem t_740 : (Jvm.Cond.code ({ cls := "ChangePlaces", name := "isPerson", desc := "(I)Z" } : Jvm.MethodName) prog_1_method_45_code (2 : Nat) (Option.some Jvm.ClassFile.FieldType.boolean)) ∈ qx_tbl := qx_t4 20 rfl rfl
set_option maxRecDepth 100000 in
theorem t_741 : (Jvm.Cond.methodLink "ChangePlaces" (158 : Nat) ({ cls := "ChangePlaces$Country", name := "onBench", desc := "(I)Z" } : Jvm.MethodName)) ∈ qx_tbl := qx_t4 21 rfl rfl
set_option maxRecDepth 100000 in
theorem t_742 : (Jvm.Cond.instanceMethod ({ cls := "ChangePlaces$Country", name := "onBench", desc := "(I)Z" } : Jvm.MethodName)) ∈ qx_tbl := qx_t4 22 rfl rfl
set_option maxRecDepth 100000 in
theorem t_743 : (Jvm.Cond.selects "ChangePlaces$Country" ({ cls := "ChangePlaces$Country", name := "onBench", desc := "(I)Z" } : Jvm.MethodName) ({ cls := "ChangePlaces$Country", name := "onBench", desc := "(I)Z" } : Jvm.MethodName)) ∈ qx_tbl := qx_t4 23 rfl rfl
set_option maxRecDepth 100000 in
theorem t_744 : (Jvm.Cond.code ({ cls := "ChangePlaces$Country", name := "onBench", desc := "(I)Z" } : Jvm.MethodName) prog_3_method_2_code (2 : Nat) (Option.some Jvm.ClassFile.FieldType.boolean)) ∈ qx_tbl := qx_t4 24 rfl rfl
set_option maxRecDepth 100000 in
theorem t_745 : (Jvm.Cond.methodLink "ChangePlaces" (167 : Nat) ({ cls := "ChangePlaces$Standing", name := "creditOf", desc := "(I)I" } : Jvm.MethodName)) ∈ qx_tbl := qx_t4 25 rfl rfl
set_option maxRecDepth 100000 in
theorem t_746 : (Jvm.Cond.instanceMethod ({ cls := "ChangePlaces$Standing", name := "creditOf", desc := "(I)I" } : Jvm.MethodName)) ∈ qx_tbl := qx_t4 26 rfl rfl
set_option maxRecDepth 100000 in
theorem t_747 : (Jvm.Cond.selects "ChangePlaces$Standing" ({ cls := "ChangePlaces$Standing", name := "creditOf", desc := "(I)I" } : Jvm.MethodName) ({ cls := "ChangePlaces$Standing", name := "creditOf", desc := "(I)I" } : Jvm.MethodName)) ∈ qx_tbl := qx_t4 27 rfl rfl
set_option maxRecDepth 100000 in
theorem t_748 : (Jvm.Cond.code ({ cls := "ChangePlaces$Standing", name := "creditOf", desc := "(I)I" } : Jvm.MethodName) prog_9_method_5_code (4 : Nat) (Option.some Jvm.ClassFile.FieldType.int)) ∈ qx_tbl := qx_t4 28 rfl rfl
set_option maxRecDepth 100000 in
theorem t_749 : (Jvm.Cond.methodLink "ChangePlaces" (171 : Nat) ({ cls := "ChangePlaces$Laws", name := "content", desc := "(II)Z" } : Jvm.MethodName)) ∈ qx_tbl := qx_t4 29 rfl rfl
set_option maxRecDepth 100000 in
theorem t_750 : (Jvm.Cond.instanceMethod ({ cls := "ChangePlaces$Laws", name := "content", desc := "(II)Z" } : Jvm.MethodName)) ∈ qx_tbl := qx_t4 30 rfl rfl
set_option maxRecDepth 100000 in
theorem t_751 : (Jvm.Cond.selects "ChangePlaces$Laws" ({ cls := "ChangePlaces$Laws", name := "content", desc := "(II)Z" } : Jvm.MethodName) ({ cls := "ChangePlaces$Laws", name := "content", desc := "(II)Z" } : Jvm.MethodName)) ∈ qx_tbl := qx_t4 31 rfl rfl
set_option maxRecDepth 100000 in
theorem t_752 : (Jvm.Cond.code ({ cls := "ChangePlaces$Laws", name := "content", desc := "(II)Z" } : Jvm.MethodName) prog_4_method_7_code (4 : Nat) (Option.some Jvm.ClassFile.FieldType.boolean)) ∈ qx_tbl := qx_t4 32 rfl rfl
set_option maxRecDepth 100000 in
theorem t_753 : (Jvm.Cond.methodLink "ChangePlaces$Laws" (102 : Nat) ({ cls := "ChangePlaces$Laws", name := "likesMore", desc := "(III)Z" } : Jvm.MethodName)) ∈ qx_tbl := qx_t4 33 rfl rfl
set_option maxRecDepth 100000 in
theorem t_754 : (Jvm.Cond.instanceMethod ({ cls := "ChangePlaces$Laws", name := "likesMore", desc := "(III)Z" } : Jvm.MethodName)) ∈ qx_tbl := qx_t4 34 rfl rfl
set_option maxRecDepth 100000 in
theorem t_755 : (Jvm.Cond.selects "ChangePlaces$Laws" ({ cls := "ChangePlaces$Laws", name := "likesMore", desc := "(III)Z" } : Jvm.MethodName) ({ cls := "ChangePlaces$Laws", name := "likesMore", desc := "(III)Z" } : Jvm.MethodName)) ∈ qx_tbl := qx_t4 35 rfl rfl
set_option maxRecDepth 100000 in
theorem t_756 : (Jvm.Cond.code ({ cls := "ChangePlaces$Laws", name := "likesMore", desc := "(III)Z" } : Jvm.MethodName) prog_4_method_6_code (4 : Nat) (Option.some Jvm.ClassFile.FieldType.boolean)) ∈ qx_tbl := qx_t4 36 rfl rfl
set_option maxRecDepth 100000 in
theorem t_757 : (Jvm.Cond.methodLink "ChangePlaces$Laws" (95 : Nat) ({ cls := "ChangePlaces$Laws", name := "likingOf", desc := "(III)I" } : Jvm.MethodName)) ∈ qx_tbl := qx_t4 37 rfl rfl
set_option maxRecDepth 100000 in
theorem t_758 : (Jvm.Cond.instanceMethod ({ cls := "ChangePlaces$Laws", name := "likingOf", desc := "(III)I" } : Jvm.MethodName)) ∈ qx_tbl := qx_t4 38 rfl rfl
set_option maxRecDepth 100000 in
theorem t_759 : (Jvm.Cond.selects "ChangePlaces$Laws" ({ cls := "ChangePlaces$Laws", name := "likingOf", desc := "(III)I" } : Jvm.MethodName) ({ cls := "ChangePlaces$Laws", name := "likingOf", desc := "(III)I" } : Jvm.MethodName)) ∈ qx_tbl := qx_t4 39 rfl rfl
set_option maxRecDepth 100000 in
theorem t_760 : (Jvm.Cond.code ({ cls := "ChangePlaces$Laws", name := "likingOf", desc := "(III)I" } : Jvm.MethodName) prog_4_method_5_code (10 : Nat) (Option.some Jvm.ClassFile.FieldType.int)) ∈ qx_tbl := qx_t4 40 rfl rfl
set_option maxRecDepth 100000 in
theorem t_761 : (Jvm.Cond.methodLink "ChangePlaces$Laws" (58 : Nat) ({ cls := "ChangePlaces$Laws", name := "tellWords", desc := "(IIIII)V" } : Jvm.MethodName)) ∈ qx_tbl := qx_t4 41 rfl rfl
set_option maxRecDepth 100000 in
theorem t_763 : (Jvm.Cond.instanceMethod ({ cls := "ChangePlaces$Laws", name := "tellWords", desc := "(IIIII)V" } : Jvm.MethodName)) ∈ qx_tbl := qx_t4 43 rfl rfl
set_option maxRecDepth 100000 in
theorem t_764 : (Jvm.Cond.code ({ cls := "ChangePlaces$Laws", name := "tellWords", desc := "(IIIII)V" } : Jvm.MethodName) prog_4_method_12_code (6 : Nat) (Option.none : Option Jvm.ClassFile.FieldType)) ∈ qx_tbl := qx_t4 44 rfl rfl
set_option maxRecDepth 100000 in
theorem t_765 : (Jvm.Cond.methodLink "ChangePlaces$Laws" (75 : Nat) ({ cls := "ChangePlaces$Laws", name := "workOut", desc := "(II)J" } : Jvm.MethodName)) ∈ qx_tbl := qx_t4 45 rfl rfl
set_option maxRecDepth 100000 in
theorem t_767 : (Jvm.Cond.instanceMethod ({ cls := "ChangePlaces$Laws", name := "workOut", desc := "(II)J" } : Jvm.MethodName)) ∈ qx_tbl := qx_t4 47 rfl rfl
set_option maxRecDepth 100000 in
theorem t_768 : (Jvm.Cond.code ({ cls := "ChangePlaces$Laws", name := "workOut", desc := "(II)J" } : Jvm.MethodName) prog_4_method_13_code (6 : Nat) (Option.some Jvm.ClassFile.FieldType.long)) ∈ qx_tbl := qx_t4 48 rfl rfl
set_option maxRecDepth 100000 in
theorem t_769 : (Jvm.Cond.constant "ChangePlaces$Laws" (150 : Nat) (100012 : Int32)) ∈ qx_tbl := qx_t4 49 rfl rfl
set_option maxRecDepth 100000 in
theorem t_770 : (Jvm.Cond.constant "ChangePlaces$Laws" (151 : Nat) (100000 : Int32)) ∈ qx_tbl := qx_t4 50 rfl rfl
set_option maxRecDepth 100000 in
theorem t_771 : (Jvm.Cond.constant "ChangePlaces$Laws" (152 : Nat) (100021 : Int32)) ∈ qx_tbl := qx_t4 51 rfl rfl
set_option maxRecDepth 100000 in
theorem t_772 : (Jvm.Cond.methodLink "ChangePlaces$Laws" (153 : Nat) ({ cls := "ChangePlaces$Laws", name := "joined", desc := "(IJJ)J" } : Jvm.MethodName)) ∈ qx_tbl := qx_t4 52 rfl rfl
set_option maxRecDepth 100000 in
theorem t_773 : (Jvm.Cond.static ({ cls := "ChangePlaces$Laws", name := "joined", desc := "(IJJ)J" } : Jvm.MethodName)) ∈ qx_tbl := qx_t4 53 rfl rfl
set_option maxRecDepth 100000 in
theorem t_774 : (Jvm.Cond.code ({ cls := "ChangePlaces$Laws", name := "joined", desc := "(IJJ)J" } : Jvm.MethodName) prog_4_method_14_code (5 : Nat) (Option.some Jvm.ClassFile.FieldType.long)) ∈ qx_tbl := qx_t4 54 rfl rfl
set_option maxRecDepth 100000 in
theorem t_775 : (Jvm.Cond.constantLong "ChangePlaces$Laws" (82 : Nat) (-999 : Int64)) ∈ qx_tbl := qx_t4 55 rfl rfl
set_option maxRecDepth 100000 in
theorem t_776 : (Jvm.Cond.constantLong "ChangePlaces$Laws" (84 : Nat) (999 : Int64)) ∈ qx_tbl := qx_t4 56 rfl rfl
set_option maxRecDepth 100000 in
theorem t_777 : (Jvm.Cond.methodLink "ChangePlaces$Laws" (86 : Nat) ({ cls := "java/lang/Math", name := "min", desc := "(JJ)J" } : Jvm.MethodName)) ∈ qx_tbl := qx_t4 57 rfl rfl
set_option maxRecDepth 100000 in
theorem t_778 : (Jvm.Cond.static ({ cls := "java/lang/Math", name := "min", desc := "(JJ)J" } : Jvm.MethodName)) ∈ qx_tbl := qx_t4 58 rfl rfl
set_option maxRecDepth 100000 in
theorem t_779 : (Jvm.Cond.code ({ cls := "java/lang/Math", name := "min", desc := "(JJ)J" } : Jvm.MethodName) prog_16_method_70_code (4 : Nat) (Option.some Jvm.ClassFile.FieldType.long)) ∈ qx_tbl := qx_t4 59 rfl rfl
set_option maxRecDepth 100000 in
theorem t_780 : (Jvm.Cond.methodLink "ChangePlaces$Laws" (92 : Nat) ({ cls := "java/lang/Math", name := "max", desc := "(JJ)J" } : Jvm.MethodName)) ∈ qx_tbl := qx_t4 60 rfl rfl
set_option maxRecDepth 100000 in
theorem t_781 : (Jvm.Cond.static ({ cls := "java/lang/Math", name := "max", desc := "(JJ)J" } : Jvm.MethodName)) ∈ qx_tbl := qx_t4 61 rfl rfl
set_option maxRecDepth 100000 in
theorem t_782 : (Jvm.Cond.code ({ cls := "java/lang/Math", name := "max", desc := "(JJ)J" } : Jvm.MethodName) prog_16_method_66_code (4 : Nat) (Option.some Jvm.ClassFile.FieldType.long)) ∈ qx_tbl := qx_t4 62 rfl rfl
set_option maxRecDepth 100000 in
theorem t_783 : (Jvm.Cond.methodLink "ChangePlacesLaw" (41 : Nat) ({ cls := "ChangePlaces", name := "wish", desc := "(II)I" } : Jvm.MethodName)) ∈ qx_tbl := qx_t4 63 rfl rfl
set_option maxRecDepth 100000 in
theorem t_784 : (Jvm.Cond.instanceMethod ({ cls := "ChangePlaces", name := "wish", desc := "(II)I" } : Jvm.MethodName)) ∈ qx_tbl := qx_t4 64 rfl rfl
set_option maxRecDepth 100000 in
theorem t_785 : (Jvm.Cond.selects "ChangePlaces" ({ cls := "ChangePlaces", name := "wish", desc := "(II)I" } : Jvm.MethodName) ({ cls := "ChangePlaces", name := "wish", desc := "(II)I" } : Jvm.MethodName)) ∈ qx_tbl := qx_t4 65 rfl rfl
set_option maxRecDepth 100000 in
theorem t_786 : (Jvm.Cond.code ({ cls := "ChangePlaces", name := "wish", desc := "(II)I" } : Jvm.MethodName) prog_1_method_8_code (3 : Nat) (Option.some Jvm.ClassFile.FieldType.int)) ∈ qx_tbl := qx_t4 66 rfl rfl
set_option maxRecDepth 100000 in
theorem t_787 : (Jvm.Cond.methodLink "ChangePlaces" (175 : Nat) ({ cls := "ChangePlaces", name := "isPlace", desc := "(I)Z" } : Jvm.MethodName)) ∈ qx_tbl := qx_t4 67 rfl rfl
set_option maxRecDepth 100000 in
theorem t_789 : (Jvm.Cond.instanceMethod ({ cls := "ChangePlaces", name := "isPlace", desc := "(I)Z" } : Jvm.MethodName)) ∈ qx_tbl := qx_t4 69 rfl rfl
set_option maxRecDepth 100000 in
theorem t_790 : (Jvm.Cond.code ({ cls := "ChangePlaces", name := "isPlace", desc := "(I)Z" } : Jvm.MethodName) prog_1_method_46_code (2 : Nat) (Option.some Jvm.ClassFile.FieldType.boolean)) ∈ qx_tbl := qx_t4 70 rfl rfl
set_option maxRecDepth 100000 in
theorem t_791 : (Jvm.Cond.methodLink "ChangePlacesLaw" (45 : Nat) ({ cls := "ChangePlaces", name := "liking", desc := "(II)I" } : Jvm.MethodName)) ∈ qx_tbl := qx_t4 71 rfl rfl
set_option maxRecDepth 100000 in
theorem t_792 : (Jvm.Cond.instanceMethod ({ cls := "ChangePlaces", name := "liking", desc := "(II)I" } : Jvm.MethodName)) ∈ qx_tbl := qx_t4 72 rfl rfl
set_option maxRecDepth 100000 in
theorem t_793 : (Jvm.Cond.selects "ChangePlaces" ({ cls := "ChangePlaces", name := "liking", desc := "(II)I" } : Jvm.MethodName) ({ cls := "ChangePlaces", name := "liking", desc := "(II)I" } : Jvm.MethodName)) ∈ qx_tbl := qx_t4 73 rfl rfl
set_option maxRecDepth 100000 in
theorem t_794 : (Jvm.Cond.code ({ cls := "ChangePlaces", name := "liking", desc := "(II)I" } : Jvm.MethodName) prog_1_method_9_code (3 : Nat) (Option.some Jvm.ClassFile.FieldType.int)) ∈ qx_tbl := qx_t4 74 rfl rfl
set_option maxRecDepth 100000 in
theorem t_795 : (Jvm.Cond.methodLink "ChangePlaces" (181 : Nat) ({ cls := "ChangePlaces$Laws", name := "likingOf", desc := "(III)I" } : Jvm.MethodName)) ∈ qx_tbl := qx_t4 75 rfl rfl
set_option maxRecDepth 100000 in
theorem t_796 : (Jvm.Cond.methodLink "ChangePlacesLaw" (49 : Nat) ({ cls := "ChangePlaces", name := "desire", desc := "(III)I" } : Jvm.MethodName)) ∈ qx_tbl := qx_t4 76 rfl rfl
set_option maxRecDepth 100000 in
theorem t_797 : (Jvm.Cond.instanceMethod ({ cls := "ChangePlaces", name := "desire", desc := "(III)I" } : Jvm.MethodName)) ∈ qx_tbl := qx_t4 77 rfl rfl
set_option maxRecDepth 100000 in
theorem t_798 : (Jvm.Cond.selects "ChangePlaces" ({ cls := "ChangePlaces", name := "desire", desc := "(III)I" } : Jvm.MethodName) ({ cls := "ChangePlaces", name := "desire", desc := "(III)I" } : Jvm.MethodName)) ∈ qx_tbl := qx_t4 78 rfl rfl
set_option maxRecDepth 100000 in
theorem t_799 : (Jvm.Cond.code ({ cls := "ChangePlaces", name := "desire", desc := "(III)I" } : Jvm.MethodName) prog_1_method_10_code (6 : Nat) (Option.some Jvm.ClassFile.FieldType.int)) ∈ qx_tbl := qx_t4 79 rfl rfl
set_option maxRecDepth 100000 in
theorem t_800 : (Jvm.Cond.methodLink "ChangePlacesLaw" (54 : Nat) ({ cls := "ChangePlaces", name := "place", desc := "(II)I" } : Jvm.MethodName)) ∈ qx_tbl := qx_t4 80 rfl rfl
set_option maxRecDepth 100000 in
theorem t_801 : (Jvm.Cond.instanceMethod ({ cls := "ChangePlaces", name := "place", desc := "(II)I" } : Jvm.MethodName)) ∈ qx_tbl := qx_t4 81 rfl rfl
set_option maxRecDepth 100000 in
theorem t_802 : (Jvm.Cond.selects "ChangePlaces" ({ cls := "ChangePlaces", name := "place", desc := "(II)I" } : Jvm.MethodName) ({ cls := "ChangePlaces", name := "place", desc := "(II)I" } : Jvm.MethodName)) ∈ qx_tbl := qx_t4 82 rfl rfl
set_option maxRecDepth 100000 in
theorem t_803 : (Jvm.Cond.code ({ cls := "ChangePlaces", name := "place", desc := "(II)I" } : Jvm.MethodName) prog_1_method_11_code (3 : Nat) (Option.some Jvm.ClassFile.FieldType.int)) ∈ qx_tbl := qx_t4 83 rfl rfl
set_option maxRecDepth 100000 in
theorem t_804 : (Jvm.Cond.methodLink "ChangePlaces" (185 : Nat) ({ cls := "ChangePlaces", name := "whoIsAt", desc := "(I)I" } : Jvm.MethodName)) ∈ qx_tbl := qx_t4 84 rfl rfl
set_option maxRecDepth 100000 in
theorem t_806 : (Jvm.Cond.instanceMethod ({ cls := "ChangePlaces", name := "whoIsAt", desc := "(I)I" } : Jvm.MethodName)) ∈ qx_tbl := qx_t4 86 rfl rfl
set_option maxRecDepth 100000 in
theorem t_807 : (Jvm.Cond.code ({ cls := "ChangePlaces", name := "whoIsAt", desc := "(I)I" } : Jvm.MethodName) prog_1_method_49_code (4 : Nat) (Option.some Jvm.ClassFile.FieldType.int)) ∈ qx_tbl := qx_t4 87 rfl rfl
set_option maxRecDepth 100000 in
theorem t_808 : (Jvm.Cond.methodLink "ChangePlaces" (188 : Nat) ({ cls := "ChangePlaces", name := "whoWouldComeTo", desc := "(I)I" } : Jvm.MethodName)) ∈ qx_tbl := qx_t4 88 rfl rfl
set_option maxRecDepth 100000 in
theorem t_810 : (Jvm.Cond.instanceMethod ({ cls := "ChangePlaces", name := "whoWouldComeTo", desc := "(I)I" } : Jvm.MethodName)) ∈ qx_tbl := qx_t4 90 rfl rfl
set_option maxRecDepth 100000 in
theorem t_811 : (Jvm.Cond.code ({ cls := "ChangePlaces", name := "whoWouldComeTo", desc := "(I)I" } : Jvm.MethodName) prog_1_method_50_code (5 : Nat) (Option.some Jvm.ClassFile.FieldType.int)) ∈ qx_tbl := qx_t4 91 rfl rfl
set_option maxRecDepth 100000 in
theorem t_812 : (Jvm.Cond.methodLink "ChangePlaces" (403 : Nat) ({ cls := "ChangePlaces$Laws", name := "likesMore", desc := "(III)Z" } : Jvm.MethodName)) ∈ qx_tbl := qx_t4 92 rfl rfl
set_option maxRecDepth 100000 in
theorem t_813 : (Jvm.Cond.methodLink "ChangePlaces" (191 : Nat) ({ cls := "ChangePlaces", name := "whoWouldLeave", desc := "(I)I" } : Jvm.MethodName)) ∈ qx_tbl := qx_t4 93 rfl rfl
set_option maxRecDepth 100000 in
theorem t_815 : (Jvm.Cond.instanceMethod ({ cls := "ChangePlaces", name := "whoWouldLeave", desc := "(I)I" } : Jvm.MethodName)) ∈ qx_tbl := qx_t4 95 rfl rfl
set_option maxRecDepth 100000 in
theorem t_816 : (Jvm.Cond.code ({ cls := "ChangePlaces", name := "whoWouldLeave", desc := "(I)I" } : Jvm.MethodName) prog_1_method_51_code (4 : Nat) (Option.some Jvm.ClassFile.FieldType.int)) ∈ qx_tbl := qx_t4 96 rfl rfl
set_option maxRecDepth 100000 in
theorem t_817 : (Jvm.Cond.methodLink "ChangePlacesLaw" (176 : Nat) ({ cls := "ChangePlaces", name := "count", desc := "(I)I" } : Jvm.MethodName)) ∈ qx_tbl := qx_t4 97 rfl rfl
set_option maxRecDepth 100000 in
theorem t_818 : (Jvm.Cond.instanceMethod ({ cls := "ChangePlaces", name := "count", desc := "(I)I" } : Jvm.MethodName)) ∈ qx_tbl := qx_t4 98 rfl rfl
set_option maxRecDepth 100000 in
theorem t_819 : (Jvm.Cond.selects "ChangePlaces" ({ cls := "ChangePlaces", name := "count", desc := "(I)I" } : Jvm.MethodName) ({ cls := "ChangePlaces", name := "count", desc := "(I)I" } : Jvm.MethodName)) ∈ qx_tbl := qx_t4 99 rfl rfl
set_option maxRecDepth 100000 in
theorem t_820 : (Jvm.Cond.code ({ cls := "ChangePlaces", name := "count", desc := "(I)I" } : Jvm.MethodName) prog_1_method_12_code (2 : Nat) (Option.some Jvm.ClassFile.FieldType.int)) ∈ qx_tbl := qx_t4 100 rfl rfl
set_option maxRecDepth 100000 in
theorem t_821 : (Jvm.Cond.methodLink "ChangePlaces" (218 : Nat) ({ cls := "ChangePlaces$Standing", name := "debtInAll", desc := "()I" } : Jvm.MethodName)) ∈ qx_tbl := qx_t4 101 rfl rfl
set_option maxRecDepth 100000 in
theorem t_822 : (Jvm.Cond.instanceMethod ({ cls := "ChangePlaces$Standing", name := "debtInAll", desc := "()I" } : Jvm.MethodName)) ∈ qx_tbl := qx_t4 102 rfl rfl
set_option maxRecDepth 100000 in
theorem t_823 : (Jvm.Cond.selects "ChangePlaces$Standing" ({ cls := "ChangePlaces$Standing", name := "debtInAll", desc := "()I" } : Jvm.MethodName) ({ cls := "ChangePlaces$Standing", name := "debtInAll", desc := "()I" } : Jvm.MethodName)) ∈ qx_tbl := qx_t4 103 rfl rfl
set_option maxRecDepth 100000 in
theorem t_824 : (Jvm.Cond.code ({ cls := "ChangePlaces$Standing", name := "debtInAll", desc := "()I" } : Jvm.MethodName) prog_9_method_6_code (3 : Nat) (Option.some Jvm.ClassFile.FieldType.int)) ∈ qx_tbl := qx_t4 104 rfl rfl
set_option maxRecDepth 100000 in
theorem t_825 : (Jvm.Cond.methodLink "ChangePlaces" (222 : Nat) ({ cls := "ChangePlaces$State", name := "foundPeople", desc := "()I" } : Jvm.MethodName)) ∈ qx_tbl := qx_t4 105 rfl rfl
set_option maxRecDepth 100000 in
theorem t_826 : (Jvm.Cond.instanceMethod ({ cls := "ChangePlaces$State", name := "foundPeople", desc := "()I" } : Jvm.MethodName)) ∈ qx_tbl := qx_t4 106 rfl rfl
set_option maxRecDepth 100000 in
theorem t_827 : (Jvm.Cond.selects "ChangePlaces$State" ({ cls := "ChangePlaces$State", name := "foundPeople", desc := "()I" } : Jvm.MethodName) ({ cls := "ChangePlaces$State", name := "foundPeople", desc := "()I" } : Jvm.MethodName)) ∈ qx_tbl := qx_t4 107 rfl rfl
set_option maxRecDepth 100000 in
theorem t_828 : (Jvm.Cond.code ({ cls := "ChangePlaces$State", name := "foundPeople", desc := "()I" } : Jvm.MethodName) prog_10_method_6_code (3 : Nat) (Option.some Jvm.ClassFile.FieldType.int)) ∈ qx_tbl := qx_t4 108 rfl rfl
set_option maxRecDepth 100000 in
theorem t_829 : (Jvm.Cond.methodLink "ChangePlacesLaw" (58 : Nat) ({ cls := "ChangePlaces", name := "call", desc := "(I)I" } : Jvm.MethodName)) ∈ qx_tbl := qx_t4 109 rfl rfl
set_option maxRecDepth 100000 in
theorem t_830 : (Jvm.Cond.instanceMethod ({ cls := "ChangePlaces", name := "call", desc := "(I)I" } : Jvm.MethodName)) ∈ qx_tbl := qx_t4 110 rfl rfl
set_option maxRecDepth 100000 in
theorem t_831 : (Jvm.Cond.selects "ChangePlaces" ({ cls := "ChangePlaces", name := "call", desc := "(I)I" } : Jvm.MethodName) ({ cls := "ChangePlaces", name := "call", desc := "(I)I" } : Jvm.MethodName)) ∈ qx_tbl := qx_t4 111 rfl rfl
set_option maxRecDepth 100000 in
theorem t_832 : (Jvm.Cond.code ({ cls := "ChangePlaces", name := "call", desc := "(I)I" } : Jvm.MethodName) prog_1_method_13_code (2 : Nat) (Option.some Jvm.ClassFile.FieldType.int)) ∈ qx_tbl := qx_t4 112 rfl rfl
set_option maxRecDepth 100000 in
theorem t_833 : (Jvm.Cond.methodLink "ChangePlaces" (231 : Nat) ({ cls := "ChangePlaces$Ring", name := "has", desc := "(I)Z" } : Jvm.MethodName)) ∈ qx_tbl := qx_t4 113 rfl rfl
set_option maxRecDepth 100000 in
theorem t_834 : (Jvm.Cond.instanceMethod ({ cls := "ChangePlaces$Ring", name := "has", desc := "(I)Z" } : Jvm.MethodName)) ∈ qx_tbl := qx_t4 114 rfl rfl
set_option maxRecDepth 100000 in
theorem t_835 : (Jvm.Cond.selects "ChangePlaces$Ring" ({ cls := "ChangePlaces$Ring", name := "has", desc := "(I)Z" } : Jvm.MethodName) ({ cls := "ChangePlaces$Ring", name := "has", desc := "(I)Z" } : Jvm.MethodName)) ∈ qx_tbl := qx_t4 115 rfl rfl
set_option maxRecDepth 100000 in
theorem t_836 : (Jvm.Cond.code ({ cls := "ChangePlaces$Ring", name := "has", desc := "(I)Z" } : Jvm.MethodName) prog_6_method_4_code (3 : Nat) (Option.some Jvm.ClassFile.FieldType.boolean)) ∈ qx_tbl := qx_t4 116 rfl rfl
set_option maxRecDepth 100000 in
theorem t_837 : (Jvm.Cond.methodLink "ChangePlaces" (234 : Nat) ({ cls := "ChangePlaces$Ring", name := "add", desc := "(I)V" } : Jvm.MethodName)) ∈ qx_tbl := qx_t4 117 rfl rfl
set_option maxRecDepth 100000 in
theorem t_838 : (Jvm.Cond.instanceMethod ({ cls := "ChangePlaces$Ring", name := "add", desc := "(I)V" } : Jvm.MethodName)) ∈ qx_tbl := qx_t4 118 rfl rfl
set_option maxRecDepth 100000 in
theorem t_839 : (Jvm.Cond.selects "ChangePlaces$Ring" ({ cls := "ChangePlaces$Ring", name := "add", desc := "(I)V" } : Jvm.MethodName) ({ cls := "ChangePlaces$Ring", name := "add", desc := "(I)V" } : Jvm.MethodName)) ∈ qx_tbl := qx_t4 119 rfl rfl
set_option maxRecDepth 100000 in
theorem t_840 : (Jvm.Cond.code ({ cls := "ChangePlaces$Ring", name := "add", desc := "(I)V" } : Jvm.MethodName) prog_6_method_3_code (2 : Nat) (Option.none : Option Jvm.ClassFile.FieldType)) ∈ qx_tbl := qx_t4 120 rfl rfl
set_option maxRecDepth 100000 in
theorem t_841 : (Jvm.Cond.methodLink "ChangePlacesLaw" (62 : Nat) ({ cls := "ChangePlaces", name := "may", desc := "()I" } : Jvm.MethodName)) ∈ qx_tbl := qx_t4 121 rfl rfl
set_option maxRecDepth 100000 in
theorem t_842 : (Jvm.Cond.instanceMethod ({ cls := "ChangePlaces", name := "may", desc := "()I" } : Jvm.MethodName)) ∈ qx_tbl := qx_t4 122 rfl rfl
set_option maxRecDepth 100000 in
theorem t_843 : (Jvm.Cond.selects "ChangePlaces" ({ cls := "ChangePlaces", name := "may", desc := "()I" } : Jvm.MethodName) ({ cls := "ChangePlaces", name := "may", desc := "()I" } : Jvm.MethodName)) ∈ qx_tbl := qx_t4 123 rfl rfl
set_option maxRecDepth 100000 in
theorem t_844 : (Jvm.Cond.code ({ cls := "ChangePlaces", name := "may", desc := "()I" } : Jvm.MethodName) prog_1_method_14_code (1 : Nat) (Option.some Jvm.ClassFile.FieldType.int)) ∈ qx_tbl := qx_t4 124 rfl rfl
set_option maxRecDepth 100000 in
theorem t_845 : (Jvm.Cond.methodLink "ChangePlaces" (237 : Nat) ({ cls := "ChangePlaces$Laws", name := "brokenByRing", desc := "(LChangePlaces$Ring;[I)I" } : Jvm.MethodName)) ∈ qx_tbl := qx_t4 125 rfl rfl
set_option maxRecDepth 100000 in
theorem t_846 : (Jvm.Cond.instanceMethod ({ cls := "ChangePlaces$Laws", name := "brokenByRing", desc := "(LChangePlaces$Ring;[I)I" } : Jvm.MethodName)) ∈ qx_tbl := qx_t4 126 rfl rfl
set_option maxRecDepth 100000 in
theorem t_847 : (Jvm.Cond.selects "ChangePlaces$Laws" ({ cls := "ChangePlaces$Laws", name := "brokenByRing", desc := "(LChangePlaces$Ring;[I)I" } : Jvm.MethodName) ({ cls := "ChangePlaces$Laws", name := "brokenByRing", desc := "(LChangePlaces$Ring;[I)I" } : Jvm.MethodName)) ∈ qx_tbl := qx_t4 127 rfl rfl
set_option maxRecDepth 100000 in
theorem t_848 : (Jvm.Cond.code ({ cls := "ChangePlaces$Laws", name := "brokenByRing", desc := "(LChangePlaces$Ring;[I)I" } : Jvm.MethodName) prog_4_method_8_code (7 : Nat) (Option.some Jvm.ClassFile.FieldType.int)) ∈ qx_tbl := qx_t4 128 rfl rfl
set_option maxRecDepth 100000 in
theorem t_849 : (Jvm.Cond.methodLink "ChangePlaces$Laws" (114 : Nat) ({ cls := "ChangePlaces$Ring", name := "after", desc := "(I)I" } : Jvm.MethodName)) ∈ qx_tbl := qx_t4 129 rfl rfl
set_option maxRecDepth 100000 in
theorem t_850 : (Jvm.Cond.instanceMethod ({ cls := "ChangePlaces$Ring", name := "after", desc := "(I)I" } : Jvm.MethodName)) ∈ qx_tbl := qx_t4 130 rfl rfl
set_option maxRecDepth 100000 in
theorem t_851 : (Jvm.Cond.selects "ChangePlaces$Ring" ({ cls := "ChangePlaces$Ring", name := "after", desc := "(I)I" } : Jvm.MethodName) ({ cls := "ChangePlaces$Ring", name := "after", desc := "(I)I" } : Jvm.MethodName)) ∈ qx_tbl := qx_t4 131 rfl rfl
set_option maxRecDepth 100000 in
theorem t_852 : (Jvm.Cond.code ({ cls := "ChangePlaces$Ring", name := "after", desc := "(I)I" } : Jvm.MethodName) prog_6_method_6_code (2 : Nat) (Option.some Jvm.ClassFile.FieldType.int)) ∈ qx_tbl := qx_t4 132 rfl rfl
set_option maxRecDepth 100000 in
theorem t_853 : (Jvm.Cond.methodLink "ChangePlaces$Laws" (118 : Nat) ({ cls := "ChangePlaces$Laws", name := "brokenBy", desc := "(IIIII)I" } : Jvm.MethodName)) ∈ qx_tbl := qx_t4 133 rfl rfl
set_option maxRecDepth 100000 in
theorem t_855 : (Jvm.Cond.instanceMethod ({ cls := "ChangePlaces$Laws", name := "brokenBy", desc := "(IIIII)I" } : Jvm.MethodName)) ∈ qx_tbl := qx_t4 135 rfl rfl
set_option maxRecDepth 100000 in
theorem t_856 : (Jvm.Cond.code ({ cls := "ChangePlaces$Laws", name := "brokenBy", desc := "(IIIII)I" } : Jvm.MethodName) prog_4_method_9_code (6 : Nat) (Option.some Jvm.ClassFile.FieldType.int)) ∈ qx_tbl := qx_t4 136 rfl rfl
set_option maxRecDepth 100000 in
theorem t_857 : (Jvm.Cond.methodLink "ChangePlaces$Laws" (122 : Nat) ({ cls := "ChangePlaces$Country", name := "onBench", desc := "(I)Z" } : Jvm.MethodName)) ∈ qx_tbl := qx_t4 137 rfl rfl
set_option maxRecDepth 100000 in
theorem t_858 : (Jvm.Cond.methodLink "ChangePlaces$Laws" (126 : Nat) ({ cls := "ChangePlaces$Laws", name := "isBarred", desc := "(IIIII)Z" } : Jvm.MethodName)) ∈ qx_tbl := qx_t4 138 rfl rfl
set_option maxRecDepth 100000 in
theorem t_859 : (Jvm.Cond.instanceMethod ({ cls := "ChangePlaces$Laws", name := "isBarred", desc := "(IIIII)Z" } : Jvm.MethodName)) ∈ qx_tbl := qx_t4 139 rfl rfl
set_option maxRecDepth 100000 in
theorem t_860 : (Jvm.Cond.selects "ChangePlaces$Laws" ({ cls := "ChangePlaces$Laws", name := "isBarred", desc := "(IIIII)Z" } : Jvm.MethodName) ({ cls := "ChangePlaces$Laws", name := "isBarred", desc := "(IIIII)Z" } : Jvm.MethodName)) ∈ qx_tbl := qx_t4 140 rfl rfl
set_option maxRecDepth 100000 in
theorem t_861 : (Jvm.Cond.code ({ cls := "ChangePlaces$Laws", name := "isBarred", desc := "(IIIII)Z" } : Jvm.MethodName) prog_4_method_11_code (7 : Nat) (Option.some Jvm.ClassFile.FieldType.boolean)) ∈ qx_tbl := qx_t4 141 rfl rfl
set_option maxRecDepth 100000 in
theorem t_862 : (Jvm.Cond.methodLink "ChangePlacesLaw" (66 : Nat) ({ cls := "ChangePlaces", name := "go", desc := "()I" } : Jvm.MethodName)) ∈ qx_tbl := qx_t4 142 rfl rfl
set_option maxRecDepth 100000 in
theorem t_863 : (Jvm.Cond.instanceMethod ({ cls := "ChangePlaces", name := "go", desc := "()I" } : Jvm.MethodName)) ∈ qx_tbl := qx_t4 143 rfl rfl
set_option maxRecDepth 100000 in
theorem t_864 : (Jvm.Cond.selects "ChangePlaces" ({ cls := "ChangePlaces", name := "go", desc := "()I" } : Jvm.MethodName) ({ cls := "ChangePlaces", name := "go", desc := "()I" } : Jvm.MethodName)) ∈ qx_tbl := qx_t4 144 rfl rfl
set_option maxRecDepth 100000 in
theorem t_865 : (Jvm.Cond.code ({ cls := "ChangePlaces", name := "go", desc := "()I" } : Jvm.MethodName) prog_1_method_15_code (3 : Nat) (Option.some Jvm.ClassFile.FieldType.int)) ∈ qx_tbl := qx_t4 145 rfl rfl
set_option maxRecDepth 100000 in
theorem t_866 : (Jvm.Cond.methodLink "ChangePlaces" (241 : Nat) ({ cls := "ChangePlaces$State", name := "keepPast", desc := "()V" } : Jvm.MethodName)) ∈ qx_tbl := qx_t4 146 rfl rfl
set_option maxRecDepth 100000 in
theorem t_867 : (Jvm.Cond.instanceMethod ({ cls := "ChangePlaces$State", name := "keepPast", desc := "()V" } : Jvm.MethodName)) ∈ qx_tbl := qx_t4 147 rfl rfl
set_option maxRecDepth 100000 in
theorem t_868 : (Jvm.Cond.selects "ChangePlaces$State" ({ cls := "ChangePlaces$State", name := "keepPast", desc := "()V" } : Jvm.MethodName) ({ cls := "ChangePlaces$State", name := "keepPast", desc := "()V" } : Jvm.MethodName)) ∈ qx_tbl := qx_t4 148 rfl rfl
set_option maxRecDepth 100000 in
theorem t_869 : (Jvm.Cond.code ({ cls := "ChangePlaces$State", name := "keepPast", desc := "()V" } : Jvm.MethodName) prog_10_method_4_code (1 : Nat) (Option.none : Option Jvm.ClassFile.FieldType)) ∈ qx_tbl := qx_t4 149 rfl rfl
set_option maxRecDepth 100000 in
theorem t_870 : (Jvm.Cond.methodLink "ChangePlaces$State" (80 : Nat) ({ cls := "ChangePlaces$Standing", name := "copyFrom", desc := "(LChangePlaces$Standing;)V" } : Jvm.MethodName)) ∈ qx_tbl := qx_t4 150 rfl rfl
set_option maxRecDepth 100000 in
theorem t_871 : (Jvm.Cond.instanceMethod ({ cls := "ChangePlaces$Standing", name := "copyFrom", desc := "(LChangePlaces$Standing;)V" } : Jvm.MethodName)) ∈ qx_tbl := qx_t4 151 rfl rfl
set_option maxRecDepth 100000 in
theorem t_872 : (Jvm.Cond.selects "ChangePlaces$Standing" ({ cls := "ChangePlaces$Standing", name := "copyFrom", desc := "(LChangePlaces$Standing;)V" } : Jvm.MethodName) ({ cls := "ChangePlaces$Standing", name := "copyFrom", desc := "(LChangePlaces$Standing;)V" } : Jvm.MethodName)) ∈ qx_tbl := qx_t4 152 rfl rfl
set_option maxRecDepth 100000 in
theorem t_873 : (Jvm.Cond.code ({ cls := "ChangePlaces$Standing", name := "copyFrom", desc := "(LChangePlaces$Standing;)V" } : Jvm.MethodName) prog_9_method_2_code (2 : Nat) (Option.none : Option Jvm.ClassFile.FieldType)) ∈ qx_tbl := qx_t4 153 rfl rfl
set_option maxRecDepth 100000 in
theorem t_874 : (Jvm.Cond.methodLink "ChangePlaces" (244 : Nat) ({ cls := "ChangePlaces$Standing", name := "change", desc := "(LChangePlaces$Ring;LChangePlaces$Country;)I" } : Jvm.MethodName)) ∈ qx_tbl := qx_t4 154 rfl rfl
set_option maxRecDepth 100000 in
theorem t_875 : (Jvm.Cond.instanceMethod ({ cls := "ChangePlaces$Standing", name := "change", desc := "(LChangePlaces$Ring;LChangePlaces$Country;)I" } : Jvm.MethodName)) ∈ qx_tbl := qx_t4 155 rfl rfl
set_option maxRecDepth 100000 in
theorem t_876 : (Jvm.Cond.selects "ChangePlaces$Standing" ({ cls := "ChangePlaces$Standing", name := "change", desc := "(LChangePlaces$Ring;LChangePlaces$Country;)I" } : Jvm.MethodName) ({ cls := "ChangePlaces$Standing", name := "change", desc := "(LChangePlaces$Ring;LChangePlaces$Country;)I" } : Jvm.MethodName)) ∈ qx_tbl := qx_t4 156 rfl rfl
set_option maxRecDepth 100000 in
theorem t_877 : (Jvm.Cond.code ({ cls := "ChangePlaces$Standing", name := "change", desc := "(LChangePlaces$Ring;LChangePlaces$Country;)I" } : Jvm.MethodName) prog_9_method_8_code (8 : Nat) (Option.some Jvm.ClassFile.FieldType.int)) ∈ qx_tbl := qx_t4 157 rfl rfl
set_option maxRecDepth 100000 in
theorem t_878 : (Jvm.Cond.methodLink "ChangePlaces$Standing" (51 : Nat) ({ cls := "ChangePlaces$Ring", name := "after", desc := "(I)I" } : Jvm.MethodName)) ∈ qx_tbl := qx_t4 158 rfl rfl
set_option maxRecDepth 100000 in
theorem t_879 : (Jvm.Cond.methodLink "ChangePlaces$Standing" (60 : Nat) ({ cls := "ChangePlaces$Standing", name := "addDebt", desc := "(III)V" } : Jvm.MethodName)) ∈ qx_tbl := qx_t4 159 rfl rfl
set_option maxRecDepth 100000 in
theorem t_880 : (Jvm.Cond.instanceMethod ({ cls := "ChangePlaces$Standing", name := "addDebt", desc := "(III)V" } : Jvm.MethodName)) ∈ qx_tbl := qx_t4 160 rfl rfl
set_option maxRecDepth 100000 in
theorem t_881 : (Jvm.Cond.selects "ChangePlaces$Standing" ({ cls := "ChangePlaces$Standing", name := "addDebt", desc := "(III)V" } : Jvm.MethodName) ({ cls := "ChangePlaces$Standing", name := "addDebt", desc := "(III)V" } : Jvm.MethodName)) ∈ qx_tbl := qx_t4 161 rfl rfl
set_option maxRecDepth 100000 in
theorem t_882 : (Jvm.Cond.code ({ cls := "ChangePlaces$Standing", name := "addDebt", desc := "(III)V" } : Jvm.MethodName) prog_9_method_4_code (4 : Nat) (Option.none : Option Jvm.ClassFile.FieldType)) ∈ qx_tbl := qx_t4 162 rfl rfl
set_option maxRecDepth 100000 in
theorem t_883 : (Jvm.Cond.methodLink "ChangePlaces$Standing" (64 : Nat) ({ cls := "ChangePlaces$Ring", name := "shift", desc := "([I)V" } : Jvm.MethodName)) ∈ qx_tbl := qx_t4 163 rfl rfl
set_option maxRecDepth 100000 in
theorem t_884 : (Jvm.Cond.instanceMethod ({ cls := "ChangePlaces$Ring", name := "shift", desc := "([I)V" } : Jvm.MethodName)) ∈ qx_tbl := qx_t4 164 rfl rfl
set_option maxRecDepth 100000 in
theorem t_885 : (Jvm.Cond.selects "ChangePlaces$Ring" ({ cls := "ChangePlaces$Ring", name := "shift", desc := "([I)V" } : Jvm.MethodName) ({ cls := "ChangePlaces$Ring", name := "shift", desc := "([I)V" } : Jvm.MethodName)) ∈ qx_tbl := qx_t4 165 rfl rfl
set_option maxRecDepth 100000 in
theorem t_886 : (Jvm.Cond.code ({ cls := "ChangePlaces$Ring", name := "shift", desc := "([I)V" } : Jvm.MethodName) prog_6_method_7_code (4 : Nat) (Option.none : Option Jvm.ClassFile.FieldType)) ∈ qx_tbl := qx_t4 166 rfl rfl
set_option maxRecDepth 100000 in
theorem t_887 : (Jvm.Cond.methodLink "ChangePlacesLaw" (70 : Nat) ({ cls := "ChangePlaces", name := "undo", desc := "()I" } : Jvm.MethodName)) ∈ qx_tbl := qx_t4 167 rfl rfl
set_option maxRecDepth 100000 in
theorem t_888 : (Jvm.Cond.instanceMethod ({ cls := "ChangePlaces", name := "undo", desc := "()I" } : Jvm.MethodName)) ∈ qx_tbl := qx_t4 168 rfl rfl
set_option maxRecDepth 100000 in
theorem t_889 : (Jvm.Cond.selects "ChangePlaces" ({ cls := "ChangePlaces", name := "undo", desc := "()I" } : Jvm.MethodName) ({ cls := "ChangePlaces", name := "undo", desc := "()I" } : Jvm.MethodName)) ∈ qx_tbl := qx_t4 169 rfl rfl
set_option maxRecDepth 100000 in
theorem t_890 : (Jvm.Cond.code ({ cls := "ChangePlaces", name := "undo", desc := "()I" } : Jvm.MethodName) prog_1_method_16_code (1 : Nat) (Option.some Jvm.ClassFile.FieldType.int)) ∈ qx_tbl := qx_t4 170 rfl rfl
set_option maxRecDepth 100000 in
theorem t_891 : (Jvm.Cond.methodLink "ChangePlaces" (248 : Nat) ({ cls := "ChangePlaces$State", name := "takePast", desc := "()Z" } : Jvm.MethodName)) ∈ qx_tbl := qx_t4 171 rfl rfl
set_option maxRecDepth 100000 in
theorem t_892 : (Jvm.Cond.instanceMethod ({ cls := "ChangePlaces$State", name := "takePast", desc := "()Z" } : Jvm.MethodName)) ∈ qx_tbl := qx_t4 172 rfl rfl
set_option maxRecDepth 100000 in
theorem t_893 : (Jvm.Cond.selects "ChangePlaces$State" ({ cls := "ChangePlaces$State", name := "takePast", desc := "()Z" } : Jvm.MethodName) ({ cls := "ChangePlaces$State", name := "takePast", desc := "()Z" } : Jvm.MethodName)) ∈ qx_tbl := qx_t4 173 rfl rfl
set_option maxRecDepth 100000 in
theorem t_894 : (Jvm.Cond.code ({ cls := "ChangePlaces$State", name := "takePast", desc := "()Z" } : Jvm.MethodName) prog_10_method_5_code (1 : Nat) (Option.some Jvm.ClassFile.FieldType.boolean)) ∈ qx_tbl := qx_t4 174 rfl rfl
set_option maxRecDepth 100000 in
theorem t_895 : (Jvm.Cond.methodLink "ChangePlacesLaw" (74 : Nat) ({ cls := "ChangePlaces", name := "owes", desc := "(II)I" } : Jvm.MethodName)) ∈ qx_tbl := qx_t4 175 rfl rfl
set_option maxRecDepth 100000 in
theorem t_896 : (Jvm.Cond.instanceMethod ({ cls := "ChangePlaces", name := "owes", desc := "(II)I" } : Jvm.MethodName)) ∈ qx_tbl := qx_t4 176 rfl rfl
set_option maxRecDepth 100000 in
theorem t_897 : (Jvm.Cond.selects "ChangePlaces" ({ cls := "ChangePlaces", name := "owes", desc := "(II)I" } : Jvm.MethodName) ({ cls := "ChangePlaces", name := "owes", desc := "(II)I" } : Jvm.MethodName)) ∈ qx_tbl := qx_t4 177 rfl rfl
set_option maxRecDepth 100000 in
theorem t_898 : (Jvm.Cond.code ({ cls := "ChangePlaces", name := "owes", desc := "(II)I" } : Jvm.MethodName) prog_1_method_17_code (3 : Nat) (Option.some Jvm.ClassFile.FieldType.int)) ∈ qx_tbl := qx_t4 178 rfl rfl
set_option maxRecDepth 100000 in
theorem t_899 : (Jvm.Cond.methodLink "ChangePlacesLaw" (78 : Nat) ({ cls := "ChangePlaces", name := "pay", desc := "(III)I" } : Jvm.MethodName)) ∈ qx_tbl := qx_t4 179 rfl rfl
set_option maxRecDepth 100000 in
theorem t_900 : (Jvm.Cond.instanceMethod ({ cls := "ChangePlaces", name := "pay", desc := "(III)I" } : Jvm.MethodName)) ∈ qx_tbl := qx_t4 180 rfl rfl
set_option maxRecDepth 100000 in
theorem t_901 : (Jvm.Cond.selects "ChangePlaces" ({ cls := "ChangePlaces", name := "pay", desc := "(III)I" } : Jvm.MethodName) ({ cls := "ChangePlaces", name := "pay", desc := "(III)I" } : Jvm.MethodName)) ∈ qx_tbl := qx_t4 181 rfl rfl
set_option maxRecDepth 100000 in
theorem t_902 : (Jvm.Cond.code ({ cls := "ChangePlaces", name := "pay", desc := "(III)I" } : Jvm.MethodName) prog_1_method_18_code (5 : Nat) (Option.some Jvm.ClassFile.FieldType.int)) ∈ qx_tbl := qx_t4 182 rfl rfl
set_option maxRecDepth 100000 in
theorem t_903 : (Jvm.Cond.methodLink "ChangePlaces" (255 : Nat) ({ cls := "ChangePlaces$Standing", name := "addDebt", desc := "(III)V" } : Jvm.MethodName)) ∈ qx_tbl := qx_t4 183 rfl rfl
set_option maxRecDepth 100000 in
theorem t_904 : (Jvm.Cond.methodLink "ChangePlacesLaw" (82 : Nat) ({ cls := "ChangePlaces", name := "strike", desc := "()I" } : Jvm.MethodName)) ∈ qx_tbl := qx_t4 184 rfl rfl
set_option maxRecDepth 100000 in
theorem t_905 : (Jvm.Cond.instanceMethod ({ cls := "ChangePlaces", name := "strike", desc := "()I" } : Jvm.MethodName)) ∈ qx_tbl := qx_t4 185 rfl rfl
set_option maxRecDepth 100000 in
theorem t_906 : (Jvm.Cond.selects "ChangePlaces" ({ cls := "ChangePlaces", name := "strike", desc := "()I" } : Jvm.MethodName) ({ cls := "ChangePlaces", name := "strike", desc := "()I" } : Jvm.MethodName)) ∈ qx_tbl := qx_t4 186 rfl rfl
set_option maxRecDepth 100000 in
theorem t_907 : (Jvm.Cond.code ({ cls := "ChangePlaces", name := "strike", desc := "()I" } : Jvm.MethodName) prog_1_method_19_code (2 : Nat) (Option.some Jvm.ClassFile.FieldType.int)) ∈ qx_tbl := qx_t4 187 rfl rfl
set_option maxRecDepth 100000 in
theorem t_908 : (Jvm.Cond.methodLink "ChangePlaces" (259 : Nat) ({ cls := "ChangePlaces", name := "hasCountry", desc := "()Z" } : Jvm.MethodName)) ∈ qx_tbl := qx_t4 188 rfl rfl
set_option maxRecDepth 100000 in
theorem t_910 : (Jvm.Cond.instanceMethod ({ cls := "ChangePlaces", name := "hasCountry", desc := "()Z" } : Jvm.MethodName)) ∈ qx_tbl := qx_t4 190 rfl rfl
set_option maxRecDepth 100000 in
theorem t_911 : (Jvm.Cond.code ({ cls := "ChangePlaces", name := "hasCountry", desc := "()Z" } : Jvm.MethodName) prog_1_method_44_code (1 : Nat) (Option.some Jvm.ClassFile.FieldType.boolean)) ∈ qx_tbl := qx_t4 191 rfl rfl
set_option maxRecDepth 100000 in
theorem t_912 : (Jvm.Cond.methodLink "ChangePlaces" (262 : Nat) ({ cls := "ChangePlaces$Standing", name := "strikeRings", desc := "(I)I" } : Jvm.MethodName)) ∈ qx_tbl := qx_t4 192 rfl rfl
set_option maxRecDepth 100000 in
theorem t_913 : (Jvm.Cond.instanceMethod ({ cls := "ChangePlaces$Standing", name := "strikeRings", desc := "(I)I" } : Jvm.MethodName)) ∈ qx_tbl := qx_t4 193 rfl rfl
set_option maxRecDepth 100000 in
theorem t_914 : (Jvm.Cond.selects "ChangePlaces$Standing" ({ cls := "ChangePlaces$Standing", name := "strikeRings", desc := "(I)I" } : Jvm.MethodName) ({ cls := "ChangePlaces$Standing", name := "strikeRings", desc := "(I)I" } : Jvm.MethodName)) ∈ qx_tbl := qx_t4 194 rfl rfl
set_option maxRecDepth 100000 in
theorem t_915 : (Jvm.Cond.code ({ cls := "ChangePlaces$Standing", name := "strikeRings", desc := "(I)I" } : Jvm.MethodName) prog_9_method_9_code (7 : Nat) (Option.some Jvm.ClassFile.FieldType.int)) ∈ qx_tbl := qx_t4 195 rfl rfl
set_option maxRecDepth 100000 in
theorem t_916 : (Jvm.Cond.methodLink "ChangePlaces$Standing" (68 : Nat) ({ cls := "ChangePlaces$Standing", name := "findRing", desc := "(I[I[I)I" } : Jvm.MethodName)) ∈ qx_tbl := qx_t4 196 rfl rfl
set_option maxRecDepth 100000 in
theorem t_918 : (Jvm.Cond.instanceMethod ({ cls := "ChangePlaces$Standing", name := "findRing", desc := "(I[I[I)I" } : Jvm.MethodName)) ∈ qx_tbl := qx_t4 198 rfl rfl
set_option maxRecDepth 100000 in
theorem t_919 : (Jvm.Cond.code ({ cls := "ChangePlaces$Standing", name := "findRing", desc := "(I[I[I)I" } : Jvm.MethodName) prog_9_method_10_code (8 : Nat) (Option.some Jvm.ClassFile.FieldType.int)) ∈ qx_tbl := qx_t4 199 rfl rfl
set_option maxRecDepth 100000 in
theorem t_920 : (Jvm.Cond.methodLink "ChangePlaces$Standing" (76 : Nat) ({ cls := "ChangePlaces$Standing", name := "countSteps", desc := "(II[I)V" } : Jvm.MethodName)) ∈ qx_tbl := qx_t4 200 rfl rfl
set_option maxRecDepth 100000 in
theorem t_922 : (Jvm.Cond.instanceMethod ({ cls := "ChangePlaces$Standing", name := "countSteps", desc := "(II[I)V" } : Jvm.MethodName)) ∈ qx_tbl := qx_t4 202 rfl rfl
set_option maxRecDepth 100000 in
theorem t_923 : (Jvm.Cond.code ({ cls := "ChangePlaces$Standing", name := "countSteps", desc := "(II[I)V" } : Jvm.MethodName) prog_9_method_11_code (7 : Nat) (Option.none : Option Jvm.ClassFile.FieldType)) ∈ qx_tbl := qx_t4 203 rfl rfl
set_option maxRecDepth 100000 in
theorem t_924 : (Jvm.Cond.methodLink "ChangePlaces$Standing" (88 : Nat) ({ cls := "ChangePlaces$Standing", name := "isDebt", desc := "(II)Z" } : Jvm.MethodName)) ∈ qx_tbl := qx_t4 204 rfl rfl
set_option maxRecDepth 100000 in
theorem t_926 : (Jvm.Cond.instanceMethod ({ cls := "ChangePlaces$Standing", name := "isDebt", desc := "(II)Z" } : Jvm.MethodName)) ∈ qx_tbl := qx_t4 206 rfl rfl
set_option maxRecDepth 100000 in
theorem t_927 : (Jvm.Cond.code ({ cls := "ChangePlaces$Standing", name := "isDebt", desc := "(II)Z" } : Jvm.MethodName) prog_9_method_7_code (3 : Nat) (Option.some Jvm.ClassFile.FieldType.boolean)) ∈ qx_tbl := qx_t4 207 rfl rfl
set_option maxRecDepth 100000 in
theorem t_928 : (Jvm.Cond.methodLink "ChangePlaces$Standing" (80 : Nat) ({ cls := "ChangePlaces$Standing", name := "ringLength", desc := "(II[I)I" } : Jvm.MethodName)) ∈ qx_tbl := qx_t4 208 rfl rfl
set_option maxRecDepth 100000 in
theorem t_930 : (Jvm.Cond.instanceMethod ({ cls := "ChangePlaces$Standing", name := "ringLength", desc := "(II[I)I" } : Jvm.MethodName)) ∈ qx_tbl := qx_t4 210 rfl rfl
set_option maxRecDepth 100000 in
theorem t_931 : (Jvm.Cond.code ({ cls := "ChangePlaces$Standing", name := "ringLength", desc := "(II[I)I" } : Jvm.MethodName) prog_9_method_12_code (6 : Nat) (Option.some Jvm.ClassFile.FieldType.int)) ∈ qx_tbl := qx_t4 211 rfl rfl
set_option maxRecDepth 100000 in
theorem t_932 : (Jvm.Cond.methodLink "ChangePlaces$Standing" (92 : Nat) ({ cls := "java/lang/Math", name := "min", desc := "(II)I" } : Jvm.MethodName)) ∈ qx_tbl := qx_t4 212 rfl rfl
set_option maxRecDepth 100000 in
theorem t_933 : (Jvm.Cond.static ({ cls := "java/lang/Math", name := "min", desc := "(II)I" } : Jvm.MethodName)) ∈ qx_tbl := qx_t4 213 rfl rfl
set_option maxRecDepth 100000 in
theorem t_934 : (Jvm.Cond.code ({ cls := "java/lang/Math", name := "min", desc := "(II)I" } : Jvm.MethodName) prog_16_method_69_code (2 : Nat) (Option.some Jvm.ClassFile.FieldType.int)) ∈ qx_tbl := qx_t4 214 rfl rfl
set_option maxRecDepth 100000 in
theorem t_935 : (Jvm.Cond.methodLink "ChangePlaces$Standing" (84 : Nat) ({ cls := "ChangePlaces$Standing", name := "walkRing", desc := "(II[I[II)V" } : Jvm.MethodName)) ∈ qx_tbl := qx_t4 215 rfl rfl
set_option maxRecDepth 100000 in
theorem t_937 : (Jvm.Cond.instanceMethod ({ cls := "ChangePlaces$Standing", name := "walkRing", desc := "(II[I[II)V" } : Jvm.MethodName)) ∈ qx_tbl := qx_t4 217 rfl rfl
set_option maxRecDepth 100000 in
theorem t_938 : (Jvm.Cond.code ({ cls := "ChangePlaces$Standing", name := "walkRing", desc := "(II[I[II)V" } : Jvm.MethodName) prog_9_method_13_code (9 : Nat) (Option.none : Option Jvm.ClassFile.FieldType)) ∈ qx_tbl := qx_t4 218 rfl rfl
set_option maxRecDepth 100000 in
theorem t_939 : (Jvm.Cond.methodLink "ChangePlaces$Standing" (72 : Nat) ({ cls := "ChangePlaces$Standing", name := "strikeRow", desc := "([II)I" } : Jvm.MethodName)) ∈ qx_tbl := qx_t4 219 rfl rfl
set_option maxRecDepth 100000 in
theorem t_941 : (Jvm.Cond.instanceMethod ({ cls := "ChangePlaces$Standing", name := "strikeRow", desc := "([II)I" } : Jvm.MethodName)) ∈ qx_tbl := qx_t4 221 rfl rfl
set_option maxRecDepth 100000 in
theorem t_942 : (Jvm.Cond.code ({ cls := "ChangePlaces$Standing", name := "strikeRow", desc := "([II)I" } : Jvm.MethodName) prog_9_method_14_code (6 : Nat) (Option.some Jvm.ClassFile.FieldType.int)) ∈ qx_tbl := qx_t4 222 rfl rfl
set_option maxRecDepth 100000 in
theorem t_943 : (Jvm.Cond.methodLink "ChangePlacesLaw" (86 : Nat) ({ cls := "ChangePlaces", name := "dawn", desc := "()I" } : Jvm.MethodName)) ∈ qx_tbl := qx_t4 223 rfl rfl
set_option maxRecDepth 100000 in
theorem t_944 : (Jvm.Cond.instanceMethod ({ cls := "ChangePlaces", name := "dawn", desc := "()I" } : Jvm.MethodName)) ∈ qx_tbl := qx_t4 224 rfl rfl
set_option maxRecDepth 100000 in
theorem t_945 : (Jvm.Cond.selects "ChangePlaces" ({ cls := "ChangePlaces", name := "dawn", desc := "()I" } : Jvm.MethodName) ({ cls := "ChangePlaces", name := "dawn", desc := "()I" } : Jvm.MethodName)) ∈ qx_tbl := qx_t4 225 rfl rfl
set_option maxRecDepth 100000 in
theorem t_946 : (Jvm.Cond.code ({ cls := "ChangePlaces", name := "dawn", desc := "()I" } : Jvm.MethodName) prog_1_method_20_code (1 : Nat) (Option.some Jvm.ClassFile.FieldType.int)) ∈ qx_tbl := qx_t4 226 rfl rfl
set_option maxRecDepth 100000 in
theorem t_947 : (Jvm.Cond.methodLink "ChangePlacesLaw" (90 : Nat) ({ cls := "ChangePlaces", name := "book", desc := "()I" } : Jvm.MethodName)) ∈ qx_tbl := qx_t4 227 rfl rfl
