theorem wd_1 : (Jvm.Cond.initialized "LandBase") ∈ xW := xW_in (tb_in_1 (List.mem_of_getElem? (i := 1) (by decide +kernel))) rfl
theorem wd_2 : (Jvm.Cond.initialized "LandBase$Tape") ∈ xW := xW_in (tb_in_1 (List.mem_of_getElem? (i := 2) (by decide +kernel))) rfl
theorem wd_3 : (Jvm.Cond.initialized "LandBase$Reader") ∈ xW := xW_in (tb_in_1 (List.mem_of_getElem? (i := 3) (by decide +kernel))) rfl
theorem wd_4 : (Jvm.Cond.initialized "LandBase$Shape") ∈ xW := xW_in (tb_in_1 (List.mem_of_getElem? (i := 4) (by decide +kernel))) rfl
theorem wd_5 : (Jvm.Cond.initialized "LandBase$Keeper") ∈ xW := xW_in (tb_in_1 (List.mem_of_getElem? (i := 5) (by decide +kernel))) rfl
theorem wd_6 : (Jvm.Cond.initialized "LandBase$Table") ∈ xW := xW_in (tb_in_1 (List.mem_of_getElem? (i := 6) (by decide +kernel))) rfl
theorem wd_7 : (Jvm.Cond.initialized "LandBase$Cutter") ∈ xW := xW_in (tb_in_1 (List.mem_of_getElem? (i := 7) (by decide +kernel))) rfl
theorem wd_8 : (Jvm.Cond.initialized "LandBase$Checker") ∈ xW := xW_in (tb_in_1 (List.mem_of_getElem? (i := 8) (by decide +kernel))) rfl
theorem wd_9 : (Jvm.Cond.initialized "LandBase$Relations") ∈ xW := xW_in (tb_in_1 (List.mem_of_getElem? (i := 9) (by decide +kernel))) rfl
theorem wd_10 : (Jvm.Cond.initialized "LandBase$Distance") ∈ xW := xW_in (tb_in_1 (List.mem_of_getElem? (i := 10) (by decide +kernel))) rfl
theorem wd_11 : (Jvm.Cond.initialized "LandBaseModel") ∈ xW := xW_in (tb_in_1 (List.mem_of_getElem? (i := 11) (by decide +kernel))) rfl
theorem wd_12 : (Jvm.Cond.initialized "LandBaseModel$Shape") ∈ xW := xW_in (tb_in_1 (List.mem_of_getElem? (i := 12) (by decide +kernel))) rfl
theorem wd_13 : (Jvm.Cond.initialized "LandBaseModel$Distance") ∈ xW := xW_in (tb_in_1 (List.mem_of_getElem? (i := 13) (by decide +kernel))) rfl
theorem wd_14 : (Jvm.Cond.initialized "LandBaseModel$State") ∈ xW := xW_in (tb_in_1 (List.mem_of_getElem? (i := 14) (by decide +kernel))) rfl
theorem wd_22 : (Jvm.Cond.classLink "LandBaseLaw" (7 : Nat) "LandBase") ∈ xW := xW_in (tb_in_1 (List.mem_of_getElem? (i := 22) (by decide +kernel))) rfl
theorem wd_23 : (Jvm.Cond.instantiable "LandBase" (11 : Nat)) ∈ xW := xW_in (tb_in_1 (List.mem_of_getElem? (i := 23) (by decide +kernel))) rfl
theorem wd_24 : (Jvm.Cond.methodLink "LandBaseLaw" (9 : Nat) ({ cls := "LandBase", name := "<init>", desc := "()V" } : Jvm.MethodName)) ∈ xW := xW_in (tb_in_1 (List.mem_of_getElem? (i := 24) (by decide +kernel))) rfl
theorem wd_25 : (Jvm.Cond.instanceMethod ({ cls := "LandBase", name := "<init>", desc := "()V" } : Jvm.MethodName)) ∈ xW := xW_in (tb_in_1 (List.mem_of_getElem? (i := 25) (by decide +kernel))) rfl
theorem wd_26 : (Jvm.Cond.code ({ cls := "LandBase", name := "<init>", desc := "()V" } : Jvm.MethodName) prog_1_method_1_code (3 : Nat) (Option.none : Option Jvm.ClassFile.FieldType)) ∈ xW := xW_in (tb_in_1 (List.mem_of_getElem? (i := 26) rfl)) rfl
theorem wd_27 : (Jvm.Cond.methodLink "LandBase" (1 : Nat) ({ cls := "java/lang/Object", name := "<init>", desc := "()V" } : Jvm.MethodName)) ∈ xW := xW_in (tb_in_1 (List.mem_of_getElem? (i := 27) (by decide +kernel))) rfl
theorem wd_28 : (Jvm.Cond.instanceMethod ({ cls := "java/lang/Object", name := "<init>", desc := "()V" } : Jvm.MethodName)) ∈ xW := xW_in (tb_in_1 (List.mem_of_getElem? (i := 28) (by decide +kernel))) rfl
theorem wd_29 : (Jvm.Cond.code ({ cls := "java/lang/Object", name := "<init>", desc := "()V" } : Jvm.MethodName) object_method_1_code (1 : Nat) (Option.none : Option Jvm.ClassFile.FieldType)) ∈ xW := xW_in (tb_in_1 (List.mem_of_getElem? (i := 29) rfl)) rfl
theorem wd_30 : (Jvm.Cond.classLink "LandBase" (7 : Nat) "LandBase$Tape") ∈ xW := xW_in (tb_in_1 (List.mem_of_getElem? (i := 30) (by decide +kernel))) rfl
theorem wd_31 : (Jvm.Cond.instantiable "LandBase$Tape" (6 : Nat)) ∈ xW := xW_in (tb_in_1 (List.mem_of_getElem? (i := 31) (by decide +kernel))) rfl
theorem wd_32 : (Jvm.Cond.methodLink "LandBase" (9 : Nat) ({ cls := "LandBase$Tape", name := "<init>", desc := "()V" } : Jvm.MethodName)) ∈ xW := xW_in (tb_in_1 (List.mem_of_getElem? (i := 32) (by decide +kernel))) rfl
theorem wd_33 : (Jvm.Cond.instanceMethod ({ cls := "LandBase$Tape", name := "<init>", desc := "()V" } : Jvm.MethodName)) ∈ xW := xW_in (tb_in_1 (List.mem_of_getElem? (i := 33) (by decide +kernel))) rfl
theorem wd_34 : (Jvm.Cond.code ({ cls := "LandBase$Tape", name := "<init>", desc := "()V" } : Jvm.MethodName) prog_11_method_1_code (1 : Nat) (Option.none : Option Jvm.ClassFile.FieldType)) ∈ xW := xW_in (tb_in_1 (List.mem_of_getElem? (i := 34) rfl)) rfl
theorem wd_35 : (Jvm.Cond.methodLink "LandBase$Tape" (3 : Nat) ({ cls := "java/lang/Object", name := "<init>", desc := "()V" } : Jvm.MethodName)) ∈ xW := xW_in (tb_in_1 (List.mem_of_getElem? (i := 35) (by decide +kernel))) rfl
theorem wd_36 : (Jvm.Cond.fieldLink "LandBase$Tape" (9 : Nat) "LandBase$Tape" "bytes" "[B") ∈ xW := xW_in (tb_in_1 (List.mem_of_getElem? (i := 36) (by decide +kernel))) rfl
theorem wd_37 : (Jvm.Cond.fieldLink "LandBase$Tape" (15 : Nat) "LandBase$Tape" "size" "I") ∈ xW := xW_in (tb_in_1 (List.mem_of_getElem? (i := 37) (by decide +kernel))) rfl
theorem wd_38 : (Jvm.Cond.fieldLinkNest "LandBase" (73 : Nat) "LandBase$Tape" "size" "I" "LandBase") ∈ xN := xN_in (tb_in_1 (List.mem_of_getElem? (i := 38) (by decide +kernel))) rfl
theorem wd_40 : (Jvm.Cond.fieldLinkNest "LandBase" (87 : Nat) "LandBase$Tape" "tokenKind" "I" "LandBase") ∈ xN := xN_in (tb_in_1 (List.mem_of_getElem? (i := 40) (by decide +kernel))) rfl
theorem wd_41 : (Jvm.Cond.fieldLink "LandBase$Tape" (28 : Nat) "LandBase$Tape" "tokenKind" "I") ∈ xW := xW_in (tb_in_1 (List.mem_of_getElem? (i := 41) (by decide +kernel))) rfl
theorem wd_43 : (Jvm.Cond.fieldLink "LandBase$Tape" (25 : Nat) "LandBase$Tape" "tokenFirst" "I") ∈ xW := xW_in (tb_in_1 (List.mem_of_getElem? (i := 43) (by decide +kernel))) rfl
theorem wd_44 : (Jvm.Cond.fieldLink "LandBase$Tape" (19 : Nat) "LandBase$Tape" "tokenNext" "I") ∈ xW := xW_in (tb_in_1 (List.mem_of_getElem? (i := 44) (by decide +kernel))) rfl
theorem wd_60 : (Jvm.Cond.arrayClass Jvm.ClassFile.FieldType.byte) ∈ xW := xW_in (tb_in_1 (List.mem_of_getElem? (i := 60) (by decide +kernel))) rfl
theorem wd_61 : (Jvm.Cond.classLink "LandBase" (16 : Nat) "LandBase$Reader") ∈ xW := xW_in (tb_in_1 (List.mem_of_getElem? (i := 61) (by decide +kernel))) rfl
theorem wd_62 : (Jvm.Cond.instantiable "LandBase$Reader" (6 : Nat)) ∈ xW := xW_in (tb_in_1 (List.mem_of_getElem? (i := 62) (by decide +kernel))) rfl
theorem wd_63 : (Jvm.Cond.methodLink "LandBase" (18 : Nat) ({ cls := "LandBase$Reader", name := "<init>", desc := "()V" } : Jvm.MethodName)) ∈ xW := xW_in (tb_in_1 (List.mem_of_getElem? (i := 63) (by decide +kernel))) rfl
theorem wd_64 : (Jvm.Cond.instanceMethod ({ cls := "LandBase$Reader", name := "<init>", desc := "()V" } : Jvm.MethodName)) ∈ xW := xW_in (tb_in_1 (List.mem_of_getElem? (i := 64) (by decide +kernel))) rfl
theorem wd_65 : (Jvm.Cond.code ({ cls := "LandBase$Reader", name := "<init>", desc := "()V" } : Jvm.MethodName) prog_7_method_1_code (1 : Nat) (Option.none : Option Jvm.ClassFile.FieldType)) ∈ xW := xW_in (tb_in_1 (List.mem_of_getElem? (i := 65) rfl)) rfl
theorem wd_66 : (Jvm.Cond.methodLink "LandBase$Reader" (3 : Nat) ({ cls := "java/lang/Object", name := "<init>", desc := "()V" } : Jvm.MethodName)) ∈ xW := xW_in (tb_in_1 (List.mem_of_getElem? (i := 66) (by decide +kernel))) rfl
theorem wd_67 : (Jvm.Cond.classLink "LandBase$Reader" (15 : Nat) "LandBase$Shape") ∈ xW := xW_in (tb_in_1 (List.mem_of_getElem? (i := 67) (by decide +kernel))) rfl
theorem wd_68 : (Jvm.Cond.instantiable "LandBase$Shape" (13 : Nat)) ∈ xW := xW_in (tb_in_1 (List.mem_of_getElem? (i := 68) (by decide +kernel))) rfl
theorem wd_69 : (Jvm.Cond.methodLink "LandBase$Reader" (17 : Nat) ({ cls := "LandBase$Shape", name := "<init>", desc := "()V" } : Jvm.MethodName)) ∈ xW := xW_in (tb_in_1 (List.mem_of_getElem? (i := 69) (by decide +kernel))) rfl
theorem wd_70 : (Jvm.Cond.instanceMethod ({ cls := "LandBase$Shape", name := "<init>", desc := "()V" } : Jvm.MethodName)) ∈ xW := xW_in (tb_in_1 (List.mem_of_getElem? (i := 70) (by decide +kernel))) rfl
theorem wd_71 : (Jvm.Cond.code ({ cls := "LandBase$Shape", name := "<init>", desc := "()V" } : Jvm.MethodName) prog_9_method_1_code (1 : Nat) (Option.none : Option Jvm.ClassFile.FieldType)) ∈ xW := xW_in (tb_in_1 (List.mem_of_getElem? (i := 71) rfl)) rfl
theorem wd_72 : (Jvm.Cond.methodLink "LandBase$Shape" (3 : Nat) ({ cls := "java/lang/Object", name := "<init>", desc := "()V" } : Jvm.MethodName)) ∈ xW := xW_in (tb_in_1 (List.mem_of_getElem? (i := 72) (by decide +kernel))) rfl
theorem wd_78 : (Jvm.Cond.fieldLinkNest "LandBase" (164 : Nat) "LandBase$Shape" "kind" "I" "LandBase") ∈ xN := xN_in (tb_in_1 (List.mem_of_getElem? (i := 78) (by decide +kernel))) rfl
theorem wd_86 : (Jvm.Cond.fieldLinkNest "LandBase" (169 : Nat) "LandBase$Shape" "size" "I" "LandBase") ∈ xN := xN_in (tb_in_1 (List.mem_of_getElem? (i := 86) (by decide +kernel))) rfl
theorem wd_89 : (Jvm.Cond.fieldLinkNest "LandBase" (170 : Nat) "LandBase$Shape" "ringCount" "I" "LandBase") ∈ xN := xN_in (tb_in_1 (List.mem_of_getElem? (i := 89) (by decide +kernel))) rfl
theorem wd_102 : (Jvm.Cond.fieldLink "LandBase$Shape" (9 : Nat) "LandBase$Shape" "x" "[I") ∈ xW := xW_in (tb_in_1 (List.mem_of_getElem? (i := 102) (by decide +kernel))) rfl
theorem wd_109 : (Jvm.Cond.fieldLink "LandBase$Shape" (15 : Nat) "LandBase$Shape" "y" "[I") ∈ xW := xW_in (tb_in_1 (List.mem_of_getElem? (i := 109) (by decide +kernel))) rfl
theorem wd_116 : (Jvm.Cond.fieldLink "LandBase$Shape" (18 : Nat) "LandBase$Shape" "ringStop" "[I") ∈ xW := xW_in (tb_in_1 (List.mem_of_getElem? (i := 116) (by decide +kernel))) rfl
theorem wd_118 : (Jvm.Cond.fieldLink "LandBase$Shape" (21 : Nat) "LandBase$Shape" "isLast" "[Z") ∈ xW := xW_in (tb_in_1 (List.mem_of_getElem? (i := 118) (by decide +kernel))) rfl
theorem wd_149 : (Jvm.Cond.arrayClass Jvm.ClassFile.FieldType.int) ∈ xW := xW_in (tb_in_1 (List.mem_of_getElem? (i := 149) (by decide +kernel))) rfl
theorem wd_150 : (Jvm.Cond.arrayClass Jvm.ClassFile.FieldType.boolean) ∈ xW := xW_in (tb_in_1 (List.mem_of_getElem? (i := 150) (by decide +kernel))) rfl
theorem wd_151 : (Jvm.Cond.fieldLink "LandBase$Reader" (11 : Nat) "LandBase$Reader" "numbers" "[I") ∈ xW := xW_in (tb_in_1 (List.mem_of_getElem? (i := 151) (by decide +kernel))) rfl
theorem wd_153 : (Jvm.Cond.fieldLink "LandBase$Reader" (18 : Nat) "LandBase$Reader" "shape" "LLandBase$Shape;") ∈ xW := xW_in (tb_in_1 (List.mem_of_getElem? (i := 153) (by decide +kernel))) rfl
theorem wd_175 : (Jvm.Cond.classLink "LandBase" (23 : Nat) "LandBase$Keeper") ∈ xW := xW_in (tb_in_1 (List.mem_of_getElem? (i := 175) (by decide +kernel))) rfl
theorem wd_176 : (Jvm.Cond.instantiable "LandBase$Keeper" (12 : Nat)) ∈ xW := xW_in (tb_in_1 (List.mem_of_getElem? (i := 176) (by decide +kernel))) rfl
theorem wd_177 : (Jvm.Cond.methodLink "LandBase" (25 : Nat) ({ cls := "LandBase$Keeper", name := "<init>", desc := "()V" } : Jvm.MethodName)) ∈ xW := xW_in (tb_in_1 (List.mem_of_getElem? (i := 177) (by decide +kernel))) rfl
theorem wd_178 : (Jvm.Cond.instanceMethod ({ cls := "LandBase$Keeper", name := "<init>", desc := "()V" } : Jvm.MethodName)) ∈ xW := xW_in (tb_in_1 (List.mem_of_getElem? (i := 178) (by decide +kernel))) rfl
theorem wd_179 : (Jvm.Cond.code ({ cls := "LandBase$Keeper", name := "<init>", desc := "()V" } : Jvm.MethodName) prog_5_method_1_code (1 : Nat) (Option.none : Option Jvm.ClassFile.FieldType)) ∈ xW := xW_in (tb_in_1 (List.mem_of_getElem? (i := 179) rfl)) rfl
theorem wd_180 : (Jvm.Cond.methodLink "LandBase$Keeper" (3 : Nat) ({ cls := "java/lang/Object", name := "<init>", desc := "()V" } : Jvm.MethodName)) ∈ xW := xW_in (tb_in_1 (List.mem_of_getElem? (i := 180) (by decide +kernel))) rfl
theorem wd_181 : (Jvm.Cond.classLink "LandBase$Keeper" (9 : Nat) "LandBase$Table") ∈ xW := xW_in (tb_in_1 (List.mem_of_getElem? (i := 181) (by decide +kernel))) rfl
theorem wd_182 : (Jvm.Cond.instantiable "LandBase$Table" (3 : Nat)) ∈ xW := xW_in (tb_in_1 (List.mem_of_getElem? (i := 182) (by decide +kernel))) rfl
theorem wd_183 : (Jvm.Cond.methodLink "LandBase$Keeper" (11 : Nat) ({ cls := "LandBase$Table", name := "<init>", desc := "()V" } : Jvm.MethodName)) ∈ xW := xW_in (tb_in_1 (List.mem_of_getElem? (i := 183) (by decide +kernel))) rfl
theorem wd_184 : (Jvm.Cond.instanceMethod ({ cls := "LandBase$Table", name := "<init>", desc := "()V" } : Jvm.MethodName)) ∈ xW := xW_in (tb_in_1 (List.mem_of_getElem? (i := 184) (by decide +kernel))) rfl
theorem wd_185 : (Jvm.Cond.code ({ cls := "LandBase$Table", name := "<init>", desc := "()V" } : Jvm.MethodName) prog_10_method_1_code (1 : Nat) (Option.none : Option Jvm.ClassFile.FieldType)) ∈ xW := xW_in (tb_in_1 (List.mem_of_getElem? (i := 185) rfl)) rfl
theorem wd_186 : (Jvm.Cond.methodLink "LandBase$Table" (3 : Nat) ({ cls := "java/lang/Object", name := "<init>", desc := "()V" } : Jvm.MethodName)) ∈ xW := xW_in (tb_in_1 (List.mem_of_getElem? (i := 186) (by decide +kernel))) rfl
theorem wd_187 : (Jvm.Cond.classLink "LandBase$Table" (15 : Nat) "LandBase$Shape") ∈ xW := xW_in (tb_in_1 (List.mem_of_getElem? (i := 187) (by decide +kernel))) rfl
theorem wd_189 : (Jvm.Cond.fieldLink "LandBase$Table" (9 : Nat) "LandBase$Table" "ids" "[I") ∈ xW := xW_in (tb_in_1 (List.mem_of_getElem? (i := 189) (by decide +kernel))) rfl
theorem wd_190 : (Jvm.Cond.fieldLinkNest "LandBase" (157 : Nat) "LandBase$Table" "ids" "[I" "LandBase") ∈ xN := xN_in (tb_in_1 (List.mem_of_getElem? (i := 190) (by decide +kernel))) rfl
theorem wd_191 : (Jvm.Cond.fieldLink "LandBase$Table" (17 : Nat) "LandBase$Table" "shapes" "[LLandBase$Shape;") ∈ xW := xW_in (tb_in_1 (List.mem_of_getElem? (i := 191) (by decide +kernel))) rfl
theorem wd_193 : (Jvm.Cond.fieldLink "LandBase$Table" (21 : Nat) "LandBase$Table" "count" "I") ∈ xW := xW_in (tb_in_1 (List.mem_of_getElem? (i := 193) (by decide +kernel))) rfl
theorem wd_194 : (Jvm.Cond.fieldLinkNest "LandBase" (149 : Nat) "LandBase$Table" "count" "I" "LandBase") ∈ xN := xN_in (tb_in_1 (List.mem_of_getElem? (i := 194) (by decide +kernel))) rfl
theorem wd_195 : (Jvm.Cond.fieldLinkNest "LandBase$Keeper" (84 : Nat) "LandBase$Table" "count" "I" "LandBase") ∈ xN := xN_in (tb_in_1 (List.mem_of_getElem? (i := 195) (by decide +kernel))) rfl
theorem wd_203 : (Jvm.Cond.classLink "LandBase$Keeper" (21 : Nat) "LandBase$Shape") ∈ xW := xW_in (tb_in_1 (List.mem_of_getElem? (i := 203) (by decide +kernel))) rfl
theorem wd_204 : (Jvm.Cond.fieldLink "LandBase$Keeper" (12 : Nat) "LandBase$Keeper" "current" "LLandBase$Table;") ∈ xW := xW_in (tb_in_1 (List.mem_of_getElem? (i := 204) (by decide +kernel))) rfl
theorem wd_205 : (Jvm.Cond.fieldLinkNest "LandBase" (145 : Nat) "LandBase$Keeper" "current" "LLandBase$Table;" "LandBase") ∈ xN := xN_in (tb_in_1 (List.mem_of_getElem? (i := 205) (by decide +kernel))) rfl
theorem wd_206 : (Jvm.Cond.fieldLink "LandBase$Keeper" (18 : Nat) "LandBase$Keeper" "committed" "LLandBase$Table;") ∈ xW := xW_in (tb_in_1 (List.mem_of_getElem? (i := 206) (by decide +kernel))) rfl
theorem wd_207 : (Jvm.Cond.fieldLink "LandBase$Keeper" (23 : Nat) "LandBase$Keeper" "pool" "[LLandBase$Shape;") ∈ xW := xW_in (tb_in_1 (List.mem_of_getElem? (i := 207) (by decide +kernel))) rfl
theorem wd_210 : (Jvm.Cond.fieldLink "LandBase$Keeper" (41 : Nat) "LandBase$Keeper" "open" "Z") ∈ xW := xW_in (tb_in_1 (List.mem_of_getElem? (i := 210) (by decide +kernel))) rfl
theorem wd_211 : (Jvm.Cond.fieldLinkNest "LandBase" (154 : Nat) "LandBase$Keeper" "open" "Z" "LandBase") ∈ xN := xN_in (tb_in_1 (List.mem_of_getElem? (i := 211) (by decide +kernel))) rfl
theorem wd_212 : (Jvm.Cond.fieldLinkNest "LandBase" (80 : Nat) "LandBase$Keeper" "down" "Z" "LandBase") ∈ xN := xN_in (tb_in_1 (List.mem_of_getElem? (i := 212) (by decide +kernel))) rfl
theorem wd_213 : (Jvm.Cond.fieldLink "LandBase$Keeper" (75 : Nat) "LandBase$Keeper" "down" "Z") ∈ xW := xW_in (tb_in_1 (List.mem_of_getElem? (i := 213) (by decide +kernel))) rfl
theorem wd_214 : (Jvm.Cond.fieldLink "LandBase$Keeper" (45 : Nat) "LandBase$Keeper" "bytes" "I") ∈ xW := xW_in (tb_in_1 (List.mem_of_getElem? (i := 214) (by decide +kernel))) rfl
theorem wd_215 : (Jvm.Cond.fieldLink "LandBase$Keeper" (69 : Nat) "LandBase$Keeper" "blocks" "I") ∈ xW := xW_in (tb_in_1 (List.mem_of_getElem? (i := 215) (by decide +kernel))) rfl
theorem wd_216 : (Jvm.Cond.fieldLinkNest "LandBase" (195 : Nat) "LandBase$Keeper" "blocks" "I" "LandBase") ∈ xN := xN_in (tb_in_1 (List.mem_of_getElem? (i := 216) (by decide +kernel))) rfl
theorem wd_218 : (Jvm.Cond.fieldLinkNest "LandBase" (198 : Nat) "LandBase$Keeper" "saveCount" "I" "LandBase") ∈ xN := xN_in (tb_in_1 (List.mem_of_getElem? (i := 218) (by decide +kernel))) rfl
theorem wd_219 : (Jvm.Cond.fieldLink "LandBase$Keeper" (27 : Nat) "LandBase$Keeper" "crashKind" "I") ∈ xW := xW_in (tb_in_1 (List.mem_of_getElem? (i := 219) (by decide +kernel))) rfl
theorem wd_220 : (Jvm.Cond.fieldLinkNest "LandBase" (136 : Nat) "LandBase$Keeper" "crashKind" "I" "LandBase") ∈ xN := xN_in (tb_in_1 (List.mem_of_getElem? (i := 220) (by decide +kernel))) rfl
theorem wd_221 : (Jvm.Cond.fieldLinkNest "LandBase" (139 : Nat) "LandBase$Keeper" "crashLeft" "I" "LandBase") ∈ xN := xN_in (tb_in_1 (List.mem_of_getElem? (i := 221) (by decide +kernel))) rfl
theorem wd_248 : (Jvm.Cond.classLink "LandBase" (30 : Nat) "LandBase$Cutter") ∈ xW := xW_in (tb_in_2 (List.mem_of_getElem? (i := 8) (by decide +kernel))) rfl
theorem wd_249 : (Jvm.Cond.instantiable "LandBase$Cutter" (14 : Nat)) ∈ xW := xW_in (tb_in_2 (List.mem_of_getElem? (i := 9) (by decide +kernel))) rfl
theorem wd_250 : (Jvm.Cond.methodLink "LandBase" (32 : Nat) ({ cls := "LandBase$Cutter", name := "<init>", desc := "()V" } : Jvm.MethodName)) ∈ xW := xW_in (tb_in_2 (List.mem_of_getElem? (i := 10) (by decide +kernel))) rfl
theorem wd_251 : (Jvm.Cond.instanceMethod ({ cls := "LandBase$Cutter", name := "<init>", desc := "()V" } : Jvm.MethodName)) ∈ xW := xW_in (tb_in_2 (List.mem_of_getElem? (i := 11) (by decide +kernel))) rfl
theorem wd_252 : (Jvm.Cond.code ({ cls := "LandBase$Cutter", name := "<init>", desc := "()V" } : Jvm.MethodName) prog_3_method_1_code (1 : Nat) (Option.none : Option Jvm.ClassFile.FieldType)) ∈ xW := xW_in (tb_in_2 (List.mem_of_getElem? (i := 12) rfl)) rfl
theorem wd_253 : (Jvm.Cond.methodLink "LandBase$Cutter" (3 : Nat) ({ cls := "java/lang/Object", name := "<init>", desc := "()V" } : Jvm.MethodName)) ∈ xW := xW_in (tb_in_2 (List.mem_of_getElem? (i := 13) (by decide +kernel))) rfl
theorem wd_254 : (Jvm.Cond.classLink "LandBase$Cutter" (9 : Nat) "LandBase$Shape") ∈ xW := xW_in (tb_in_2 (List.mem_of_getElem? (i := 14) (by decide +kernel))) rfl
theorem wd_255 : (Jvm.Cond.methodLink "LandBase$Cutter" (11 : Nat) ({ cls := "LandBase$Shape", name := "<init>", desc := "()V" } : Jvm.MethodName)) ∈ xW := xW_in (tb_in_2 (List.mem_of_getElem? (i := 15) (by decide +kernel))) rfl
theorem wd_256 : (Jvm.Cond.fieldLink "LandBase$Cutter" (12 : Nat) "LandBase$Cutter" "region" "LLandBase$Shape;") ∈ xW := xW_in (tb_in_2 (List.mem_of_getElem? (i := 16) (by decide +kernel))) rfl
theorem wd_263 : (Jvm.Cond.fieldLink "LandBase$Cutter" (18 : Nat) "LandBase$Cutter" "over" "[J") ∈ xW := xW_in (tb_in_2 (List.mem_of_getElem? (i := 23) (by decide +kernel))) rfl
theorem wd_264 : (Jvm.Cond.fieldLink "LandBase$Cutter" (22 : Nat) "LandBase$Cutter" "under" "[J") ∈ xW := xW_in (tb_in_2 (List.mem_of_getElem? (i := 24) (by decide +kernel))) rfl
theorem wd_265 : (Jvm.Cond.fieldLink "LandBase$Cutter" (25 : Nat) "LandBase$Cutter" "turn" "[I") ∈ xW := xW_in (tb_in_2 (List.mem_of_getElem? (i := 25) (by decide +kernel))) rfl
theorem wd_299 : (Jvm.Cond.arrayClass Jvm.ClassFile.FieldType.long) ∈ xW := xW_in (tb_in_2 (List.mem_of_getElem? (i := 59) (by decide +kernel))) rfl
theorem wd_300 : (Jvm.Cond.classLink "LandBase" (33 : Nat) "LandBase$Checker") ∈ xW := xW_in (tb_in_2 (List.mem_of_getElem? (i := 60) (by decide +kernel))) rfl
theorem wd_301 : (Jvm.Cond.instantiable "LandBase$Checker" (2 : Nat)) ∈ xW := xW_in (tb_in_2 (List.mem_of_getElem? (i := 61) (by decide +kernel))) rfl
theorem wd_302 : (Jvm.Cond.methodLink "LandBase" (35 : Nat) ({ cls := "LandBase$Checker", name := "<init>", desc := "(LLandBase$Cutter;)V" } : Jvm.MethodName)) ∈ xW := xW_in (tb_in_2 (List.mem_of_getElem? (i := 62) (by decide +kernel))) rfl
theorem wd_303 : (Jvm.Cond.instanceMethod ({ cls := "LandBase$Checker", name := "<init>", desc := "(LLandBase$Cutter;)V" } : Jvm.MethodName)) ∈ xW := xW_in (tb_in_2 (List.mem_of_getElem? (i := 63) (by decide +kernel))) rfl
theorem wd_304 : (Jvm.Cond.code ({ cls := "LandBase$Checker", name := "<init>", desc := "(LLandBase$Cutter;)V" } : Jvm.MethodName) prog_2_method_1_code (2 : Nat) (Option.none : Option Jvm.ClassFile.FieldType)) ∈ xW := xW_in (tb_in_2 (List.mem_of_getElem? (i := 64) rfl)) rfl
theorem wd_305 : (Jvm.Cond.methodLink "LandBase$Checker" (3 : Nat) ({ cls := "java/lang/Object", name := "<init>", desc := "()V" } : Jvm.MethodName)) ∈ xW := xW_in (tb_in_2 (List.mem_of_getElem? (i := 65) (by decide +kernel))) rfl
theorem wd_306 : (Jvm.Cond.fieldLink "LandBase$Checker" (9 : Nat) "LandBase$Checker" "cutter" "LLandBase$Cutter;") ∈ xW := xW_in (tb_in_2 (List.mem_of_getElem? (i := 66) (by decide +kernel))) rfl
theorem wd_307 : (Jvm.Cond.fieldLink "LandBase$Checker" (15 : Nat) "LandBase$Checker" "group" "[I") ∈ xW := xW_in (tb_in_2 (List.mem_of_getElem? (i := 67) (by decide +kernel))) rfl
theorem wd_313 : (Jvm.Cond.classLink "LandBase" (42 : Nat) "LandBase$Relations") ∈ xW := xW_in (tb_in_2 (List.mem_of_getElem? (i := 73) (by decide +kernel))) rfl
theorem wd_314 : (Jvm.Cond.instantiable "LandBase$Relations" (1 : Nat)) ∈ xW := xW_in (tb_in_2 (List.mem_of_getElem? (i := 74) (by decide +kernel))) rfl
theorem wd_315 : (Jvm.Cond.methodLink "LandBase" (44 : Nat) ({ cls := "LandBase$Relations", name := "<init>", desc := "(LLandBase$Cutter;)V" } : Jvm.MethodName)) ∈ xW := xW_in (tb_in_2 (List.mem_of_getElem? (i := 75) (by decide +kernel))) rfl
theorem wd_316 : (Jvm.Cond.instanceMethod ({ cls := "LandBase$Relations", name := "<init>", desc := "(LLandBase$Cutter;)V" } : Jvm.MethodName)) ∈ xW := xW_in (tb_in_2 (List.mem_of_getElem? (i := 76) (by decide +kernel))) rfl
theorem wd_317 : (Jvm.Cond.code ({ cls := "LandBase$Relations", name := "<init>", desc := "(LLandBase$Cutter;)V" } : Jvm.MethodName) prog_8_method_1_code (2 : Nat) (Option.none : Option Jvm.ClassFile.FieldType)) ∈ xW := xW_in (tb_in_2 (List.mem_of_getElem? (i := 77) rfl)) rfl
theorem wd_318 : (Jvm.Cond.methodLink "LandBase$Relations" (3 : Nat) ({ cls := "java/lang/Object", name := "<init>", desc := "()V" } : Jvm.MethodName)) ∈ xW := xW_in (tb_in_2 (List.mem_of_getElem? (i := 78) (by decide +kernel))) rfl
theorem wd_319 : (Jvm.Cond.fieldLink "LandBase$Relations" (9 : Nat) "LandBase$Relations" "cutter" "LLandBase$Cutter;") ∈ xW := xW_in (tb_in_2 (List.mem_of_getElem? (i := 79) (by decide +kernel))) rfl
theorem wd_323 : (Jvm.Cond.classLink "LandBase" (49 : Nat) "LandBase$Distance") ∈ xW := xW_in (tb_in_2 (List.mem_of_getElem? (i := 83) (by decide +kernel))) rfl
theorem wd_325 : (Jvm.Cond.instantiable "LandBase$Distance" (3 : Nat)) ∈ xW := xW_in (tb_in_2 (List.mem_of_getElem? (i := 85) (by decide +kernel))) rfl
theorem wd_326 : (Jvm.Cond.methodLink "LandBase" (55 : Nat) ({ cls := "LandBase$Distance", name := "<init>", desc := "()V" } : Jvm.MethodName)) ∈ xW := xW_in (tb_in_2 (List.mem_of_getElem? (i := 86) (by decide +kernel))) rfl
theorem wd_327 : (Jvm.Cond.instanceMethod ({ cls := "LandBase$Distance", name := "<init>", desc := "()V" } : Jvm.MethodName)) ∈ xW := xW_in (tb_in_2 (List.mem_of_getElem? (i := 87) (by decide +kernel))) rfl
theorem wd_328 : (Jvm.Cond.code ({ cls := "LandBase$Distance", name := "<init>", desc := "()V" } : Jvm.MethodName) prog_4_method_1_code (1 : Nat) (Option.none : Option Jvm.ClassFile.FieldType)) ∈ xW := xW_in (tb_in_2 (List.mem_of_getElem? (i := 88) rfl)) rfl
theorem wd_329 : (Jvm.Cond.methodLink "LandBase$Distance" (3 : Nat) ({ cls := "java/lang/Object", name := "<init>", desc := "()V" } : Jvm.MethodName)) ∈ xW := xW_in (tb_in_2 (List.mem_of_getElem? (i := 89) (by decide +kernel))) rfl
theorem wd_332 : (Jvm.Cond.fieldLink "LandBase$Distance" (9 : Nat) "LandBase$Distance" "under" "J") ∈ xW := xW_in (tb_in_2 (List.mem_of_getElem? (i := 92) (by decide +kernel))) rfl
theorem wd_340 : (Jvm.Cond.fieldLink "LandBase" (10 : Nat) "LandBase" "tape" "LLandBase$Tape;") ∈ xW := xW_in (tb_in_2 (List.mem_of_getElem? (i := 100) (by decide +kernel))) rfl
theorem wd_341 : (Jvm.Cond.fieldLink "LandBase" (19 : Nat) "LandBase" "reader" "LLandBase$Reader;") ∈ xW := xW_in (tb_in_2 (List.mem_of_getElem? (i := 101) (by decide +kernel))) rfl
theorem wd_342 : (Jvm.Cond.fieldLink "LandBase" (26 : Nat) "LandBase" "keeper" "LLandBase$Keeper;") ∈ xW := xW_in (tb_in_2 (List.mem_of_getElem? (i := 102) (by decide +kernel))) rfl
theorem wd_343 : (Jvm.Cond.fieldLink "LandBase" (38 : Nat) "LandBase" "checker" "LLandBase$Checker;") ∈ xW := xW_in (tb_in_2 (List.mem_of_getElem? (i := 103) (by decide +kernel))) rfl
theorem wd_344 : (Jvm.Cond.fieldLink "LandBase" (45 : Nat) "LandBase" "relations" "LLandBase$Relations;") ∈ xW := xW_in (tb_in_2 (List.mem_of_getElem? (i := 104) (by decide +kernel))) rfl
theorem wd_345 : (Jvm.Cond.fieldLink "LandBase" (51 : Nat) "LandBase" "distances" "[LLandBase$Distance;") ∈ xW := xW_in (tb_in_2 (List.mem_of_getElem? (i := 105) (by decide +kernel))) rfl
theorem wd_346 : (Jvm.Cond.fieldLink "LandBase" (56 : Nat) "LandBase" "order" "[I") ∈ xW := xW_in (tb_in_2 (List.mem_of_getElem? (i := 106) (by decide +kernel))) rfl
theorem wd_347 : (Jvm.Cond.fieldLink "LandBase" (60 : Nat) "LandBase" "ints" "[I") ∈ xW := xW_in (tb_in_2 (List.mem_of_getElem? (i := 107) (by decide +kernel))) rfl
theorem wd_348 : (Jvm.Cond.fieldLink "LandBase" (63 : Nat) "LandBase" "intCount" "I") ∈ xW := xW_in (tb_in_2 (List.mem_of_getElem? (i := 108) (by decide +kernel))) rfl
theorem wd_349 : (Jvm.Cond.fieldLink "LandBase" (67 : Nat) "LandBase" "offered" "I") ∈ xW := xW_in (tb_in_2 (List.mem_of_getElem? (i := 109) (by decide +kernel))) rfl
theorem wd_350 : (Jvm.Cond.fieldLink "LandBase" (70 : Nat) "LandBase" "wrongAt" "I") ∈ xW := xW_in (tb_in_2 (List.mem_of_getElem? (i := 110) (by decide +kernel))) rfl
theorem wd_374 : (Jvm.Cond.methodLink "LandBaseLaw" (15 : Nat) ({ cls := "LandBase", name := "feed", desc := "(JJJJJ)I" } : Jvm.MethodName)) ∈ xW := xW_in (tb_in_2 (List.mem_of_getElem? (i := 134) (by decide +kernel))) rfl
theorem wd_375 : (Jvm.Cond.instanceMethod ({ cls := "LandBase", name := "feed", desc := "(JJJJJ)I" } : Jvm.MethodName)) ∈ xW := xW_in (tb_in_2 (List.mem_of_getElem? (i := 135) (by decide +kernel))) rfl
theorem wd_376 : (Jvm.Cond.selects "LandBase" ({ cls := "LandBase", name := "feed", desc := "(JJJJJ)I" } : Jvm.MethodName) ({ cls := "LandBase", name := "feed", desc := "(JJJJJ)I" } : Jvm.MethodName)) ∈ xW := xW_in (tb_in_2 (List.mem_of_getElem? (i := 136) (by decide +kernel))) rfl
theorem wd_377 : (Jvm.Cond.code ({ cls := "LandBase", name := "feed", desc := "(JJJJJ)I" } : Jvm.MethodName) prog_1_method_2_code (11 : Nat) (Option.some Jvm.ClassFile.FieldType.int)) ∈ xW := xW_in (tb_in_2 (List.mem_of_getElem? (i := 137) rfl)) rfl
theorem wd_378 : (Jvm.Cond.methodLink "LandBase" (76 : Nat) ({ cls := "LandBase$Tape", name := "append", desc := "(J)V" } : Jvm.MethodName)) ∈ xW := xW_in (tb_in_2 (List.mem_of_getElem? (i := 138) (by decide +kernel))) rfl
theorem wd_379 : (Jvm.Cond.instanceMethod ({ cls := "LandBase$Tape", name := "append", desc := "(J)V" } : Jvm.MethodName)) ∈ xW := xW_in (tb_in_2 (List.mem_of_getElem? (i := 139) (by decide +kernel))) rfl
theorem wd_380 : (Jvm.Cond.selects "LandBase$Tape" ({ cls := "LandBase$Tape", name := "append", desc := "(J)V" } : Jvm.MethodName) ({ cls := "LandBase$Tape", name := "append", desc := "(J)V" } : Jvm.MethodName)) ∈ xW := xW_in (tb_in_2 (List.mem_of_getElem? (i := 140) (by decide +kernel))) rfl
theorem wd_381 : (Jvm.Cond.code ({ cls := "LandBase$Tape", name := "append", desc := "(J)V" } : Jvm.MethodName) prog_11_method_2_code (4 : Nat) (Option.none : Option Jvm.ClassFile.FieldType)) ∈ xW := xW_in (tb_in_2 (List.mem_of_getElem? (i := 141) rfl)) rfl
theorem wd_382 : (Jvm.Cond.methodLink "LandBaseLaw" (20 : Nat) ({ cls := "LandBase", name := "end", desc := "(I)I" } : Jvm.MethodName)) ∈ xW := xW_in (tb_in_2 (List.mem_of_getElem? (i := 142) (by decide +kernel))) rfl
theorem wd_383 : (Jvm.Cond.instanceMethod ({ cls := "LandBase", name := "end", desc := "(I)I" } : Jvm.MethodName)) ∈ xW := xW_in (tb_in_2 (List.mem_of_getElem? (i := 143) (by decide +kernel))) rfl
theorem wd_384 : (Jvm.Cond.selects "LandBase" ({ cls := "LandBase", name := "end", desc := "(I)I" } : Jvm.MethodName) ({ cls := "LandBase", name := "end", desc := "(I)I" } : Jvm.MethodName)) ∈ xW := xW_in (tb_in_2 (List.mem_of_getElem? (i := 144) (by decide +kernel))) rfl
theorem wd_385 : (Jvm.Cond.code ({ cls := "LandBase", name := "end", desc := "(I)I" } : Jvm.MethodName) prog_1_method_3_code (2 : Nat) (Option.some Jvm.ClassFile.FieldType.int)) ∈ xW := xW_in (tb_in_2 (List.mem_of_getElem? (i := 145) rfl)) rfl
theorem wd_386 : (Jvm.Cond.methodLink "LandBaseLaw" (25 : Nat) ({ cls := "LandBase", name := "run", desc := "()I" } : Jvm.MethodName)) ∈ xW := xW_in (tb_in_2 (List.mem_of_getElem? (i := 146) (by decide +kernel))) rfl
theorem wd_387 : (Jvm.Cond.instanceMethod ({ cls := "LandBase", name := "run", desc := "()I" } : Jvm.MethodName)) ∈ xW := xW_in (tb_in_2 (List.mem_of_getElem? (i := 147) (by decide +kernel))) rfl
theorem wd_388 : (Jvm.Cond.selects "LandBase" ({ cls := "LandBase", name := "run", desc := "()I" } : Jvm.MethodName) ({ cls := "LandBase", name := "run", desc := "()I" } : Jvm.MethodName)) ∈ xW := xW_in (tb_in_2 (List.mem_of_getElem? (i := 148) (by decide +kernel))) rfl
theorem wd_389 : (Jvm.Cond.code ({ cls := "LandBase", name := "run", desc := "()I" } : Jvm.MethodName) prog_1_method_4_code (3 : Nat) (Option.some Jvm.ClassFile.FieldType.int)) ∈ xW := xW_in (tb_in_2 (List.mem_of_getElem? (i := 149) rfl)) rfl
theorem wd_390 : (Jvm.Cond.methodLink "LandBase" (84 : Nat) ({ cls := "LandBase$Tape", name := "rewind", desc := "()V" } : Jvm.MethodName)) ∈ xW := xW_in (tb_in_2 (List.mem_of_getElem? (i := 150) (by decide +kernel))) rfl
theorem wd_391 : (Jvm.Cond.instanceMethod ({ cls := "LandBase$Tape", name := "rewind", desc := "()V" } : Jvm.MethodName)) ∈ xW := xW_in (tb_in_2 (List.mem_of_getElem? (i := 151) (by decide +kernel))) rfl
theorem wd_392 : (Jvm.Cond.selects "LandBase$Tape" ({ cls := "LandBase$Tape", name := "rewind", desc := "()V" } : Jvm.MethodName) ({ cls := "LandBase$Tape", name := "rewind", desc := "()V" } : Jvm.MethodName)) ∈ xW := xW_in (tb_in_2 (List.mem_of_getElem? (i := 152) (by decide +kernel))) rfl
theorem wd_393 : (Jvm.Cond.code ({ cls := "LandBase$Tape", name := "rewind", desc := "()V" } : Jvm.MethodName) prog_11_method_4_code (1 : Nat) (Option.none : Option Jvm.ClassFile.FieldType)) ∈ xW := xW_in (tb_in_2 (List.mem_of_getElem? (i := 153) rfl)) rfl
theorem wd_394 : (Jvm.Cond.methodLink "LandBase$Tape" (22 : Nat) ({ cls := "LandBase$Tape", name := "advance", desc := "()V" } : Jvm.MethodName)) ∈ xW := xW_in (tb_in_2 (List.mem_of_getElem? (i := 154) (by decide +kernel))) rfl
theorem wd_395 : (Jvm.Cond.instanceMethod ({ cls := "LandBase$Tape", name := "advance", desc := "()V" } : Jvm.MethodName)) ∈ xW := xW_in (tb_in_2 (List.mem_of_getElem? (i := 155) (by decide +kernel))) rfl
theorem wd_396 : (Jvm.Cond.selects "LandBase$Tape" ({ cls := "LandBase$Tape", name := "advance", desc := "()V" } : Jvm.MethodName) ({ cls := "LandBase$Tape", name := "advance", desc := "()V" } : Jvm.MethodName)) ∈ xW := xW_in (tb_in_2 (List.mem_of_getElem? (i := 156) (by decide +kernel))) rfl
theorem wd_397 : (Jvm.Cond.code ({ cls := "LandBase$Tape", name := "advance", desc := "()V" } : Jvm.MethodName) prog_11_method_5_code (3 : Nat) (Option.none : Option Jvm.ClassFile.FieldType)) ∈ xW := xW_in (tb_in_2 (List.mem_of_getElem? (i := 157) rfl)) rfl
