theorem tw_101 : (Jvm.Cond.fieldLink "BoyBishop$Choir" (21 : Nat) "BoyBishop$Choir" "likes" "[I") ∈ gT := gT_in (List.mem_append_right _ (List.mem_append_left _ (List.mem_of_getElem? (i := 101) rfl))) rfl
theorem tw_105 : (Jvm.Cond.fieldLink "BoyBishop$Choir" (24 : Nat) "BoyBishop$Choir" "age" "[I") ∈ gT := gT_in (List.mem_append_right _ (List.mem_append_left _ (List.mem_of_getElem? (i := 105) rfl))) rfl
theorem tw_108 : (Jvm.Cond.fieldLink "BoyBishop$Choir" (27 : Nat) "BoyBishop$Choir" "prebend" "[I") ∈ gT := gT_in (List.mem_append_right _ (List.mem_append_left _ (List.mem_of_getElem? (i := 108) rfl))) rfl
theorem tw_111 : (Jvm.Cond.fieldLink "BoyBishop$Choir" (30 : Nat) "BoyBishop$Choir" "gift" "[I") ∈ gT := gT_in (List.mem_append_right _ (List.mem_append_left _ (List.mem_of_getElem? (i := 111) rfl))) rfl
theorem tw_115 : (Jvm.Cond.fieldLink "BoyBishop$Choir" (33 : Nat) "BoyBishop$Choir" "more" "[I") ∈ gT := gT_in (List.mem_append_right _ (List.mem_append_left _ (List.mem_of_getElem? (i := 115) rfl))) rfl
theorem tw_119 : (Jvm.Cond.fieldLink "BoyBishop$Choir" (36 : Nat) "BoyBishop$Choir" "ways" "[I") ∈ gT := gT_in (List.mem_append_right _ (List.mem_append_left _ (List.mem_of_getElem? (i := 119) rfl))) rfl
theorem tw_120 : (Jvm.Cond.fieldLink "BoyBishop$Choir" (39 : Nat) "BoyBishop$Choir" "snow" "[Z") ∈ gT := gT_in (List.mem_append_right _ (List.mem_append_left _ (List.mem_of_getElem? (i := 120) rfl))) rfl
theorem tw_154 : (Jvm.Cond.arrayClass Jvm.ClassFile.FieldType.int) ∈ gT := gT_in (List.mem_append_right _ (List.mem_append_left _ (List.mem_of_getElem? (i := 154) rfl))) rfl
theorem tw_155 : (Jvm.Cond.arrayClass Jvm.ClassFile.FieldType.boolean) ∈ gT := gT_in (List.mem_append_right _ (List.mem_append_left _ (List.mem_of_getElem? (i := 155) rfl))) rfl
theorem tw_156 : (Jvm.Cond.fieldLink "BoyBishop$ChoirReader" (12 : Nat) "BoyBishop$ChoirReader" "spare" "LBoyBishop$Choir;") ∈ gT := gT_in (List.mem_append_right _ (List.mem_append_left _ (List.mem_of_getElem? (i := 156) rfl))) rfl
theorem tw_165 : (Jvm.Cond.methodLink "BoyBishop$RuleReader" (3 : Nat) ({ cls := "java/lang/Object", name := "<init>", desc := "()V" } : Jvm.MethodName)) ∈ gT := gT_in (List.mem_append_right _ (List.mem_append_left _ (List.mem_of_getElem? (i := 165) rfl))) rfl
theorem tw_182 : (Jvm.Cond.methodLink "BoyBishop$Rule" (1 : Nat) ({ cls := "java/lang/Object", name := "<init>", desc := "()V" } : Jvm.MethodName)) ∈ gT := gT_in (List.mem_append_right _ (List.mem_append_left _ (List.mem_of_getElem? (i := 182) rfl))) rfl
theorem tw_183 : (Jvm.Cond.fieldLink "BoyBishop$Rule" (9 : Nat) "BoyBishop$Rule" "steps" "[I") ∈ gT := gT_in (List.mem_append_right _ (List.mem_append_left _ (List.mem_of_getElem? (i := 183) rfl))) rfl
theorem tw_185 : (Jvm.Cond.fieldLink "BoyBishop$Rule" (15 : Nat) "BoyBishop$Rule" "sumFrom" "[I") ∈ gT := gT_in (List.mem_append_right _ (List.mem_append_left _ (List.mem_of_getElem? (i := 185) rfl))) rfl
theorem tw_186 : (Jvm.Cond.fieldLink "BoyBishop$Rule" (18 : Nat) "BoyBishop$Rule" "testFrom" "[I") ∈ gT := gT_in (List.mem_append_right _ (List.mem_append_left _ (List.mem_of_getElem? (i := 186) rfl))) rfl
theorem tw_187 : (Jvm.Cond.fieldLink "BoyBishop$Rule" (21 : Nat) "BoyBishop$Rule" "clauseTo" "[I") ∈ gT := gT_in (List.mem_append_right _ (List.mem_append_left _ (List.mem_of_getElem? (i := 187) rfl))) rfl
theorem tw_189 : (Jvm.Cond.fieldLink "BoyBishop$Rule" (24 : Nat) "BoyBishop$Rule" "stack" "[J") ∈ gT := gT_in (List.mem_append_right _ (List.mem_append_left _ (List.mem_of_getElem? (i := 189) rfl))) rfl
theorem tw_205 : (Jvm.Cond.arrayClass Jvm.ClassFile.FieldType.long) ∈ gT := gT_in (List.mem_append_right _ (List.mem_append_left _ (List.mem_of_getElem? (i := 205) rfl))) rfl
theorem tw_213 : (Jvm.Cond.methodLink "BoyBishop$Whole" (3 : Nat) ({ cls := "java/lang/Object", name := "<init>", desc := "()V" } : Jvm.MethodName)) ∈ gT := gT_in (List.mem_append_right _ (List.mem_append_left _ (List.mem_of_getElem? (i := 213) rfl))) rfl
theorem tw_214 : (Jvm.Cond.classLink "BoyBishop$Whole" (15 : Nat) "BoyBishop$Standing") ∈ gT := gT_in (List.mem_append_right _ (List.mem_append_left _ (List.mem_of_getElem? (i := 214) rfl))) rfl
theorem tw_215 : (Jvm.Cond.instantiable "BoyBishop$Standing" (13 : Nat)) ∈ gT := gT_in (List.mem_append_right _ (List.mem_append_left _ (List.mem_of_getElem? (i := 215) rfl))) rfl
theorem tw_216 : (Jvm.Cond.methodLink "BoyBishop$Whole" (17 : Nat) ({ cls := "BoyBishop$Standing", name := "<init>", desc := "()V" } : Jvm.MethodName)) ∈ gT := gT_in (List.mem_append_right _ (List.mem_append_left _ (List.mem_of_getElem? (i := 216) rfl))) rfl
theorem tw_217 : (Jvm.Cond.instanceMethod ({ cls := "BoyBishop$Standing", name := "<init>", desc := "()V" } : Jvm.MethodName)) ∈ gT := gT_in (List.mem_append_right _ (List.mem_append_left _ (List.mem_of_getElem? (i := 217) rfl))) rfl
theorem tw_218 : (Jvm.Cond.code ({ cls := "BoyBishop$Standing", name := "<init>", desc := "()V" } : Jvm.MethodName) prog_10_method_1_code (1 : Nat) (Option.none : Option Jvm.ClassFile.FieldType)) ∈ gT := gT_in (List.mem_append_right _ (List.mem_append_left _ (List.mem_of_getElem? (i := 218) rfl))) rfl
theorem tw_219 : (Jvm.Cond.methodLink "BoyBishop$Standing" (3 : Nat) ({ cls := "java/lang/Object", name := "<init>", desc := "()V" } : Jvm.MethodName)) ∈ gT := gT_in (List.mem_append_right _ (List.mem_append_left _ (List.mem_of_getElem? (i := 219) rfl))) rfl
theorem tw_223 : (Jvm.Cond.fieldLink "BoyBishop$Standing" (9 : Nat) "BoyBishop$Standing" "bishop" "I") ∈ gT := gT_in (List.mem_append_right _ (List.mem_append_left _ (List.mem_of_getElem? (i := 223) rfl))) rfl
theorem tw_227 : (Jvm.Cond.fieldLink "BoyBishop$Standing" (15 : Nat) "BoyBishop$Standing" "firstDay" "I") ∈ gT := gT_in (List.mem_append_right _ (List.mem_append_left _ (List.mem_of_getElem? (i := 227) rfl))) rfl
theorem tw_238 : (Jvm.Cond.fieldLink "BoyBishop$Standing" (18 : Nat) "BoyBishop$Standing" "voice" "[I") ∈ gT := gT_in (List.mem_append_right _ (List.mem_append_left _ (List.mem_of_getElem? (i := 238) rfl))) rfl
theorem tw_242 : (Jvm.Cond.fieldLink "BoyBishop$Standing" (22 : Nat) "BoyBishop$Standing" "share" "[I") ∈ gT := gT_in (List.mem_append_right _ (List.mem_append_right _ (List.mem_append_left _ (List.mem_of_getElem? (i := 2) rfl)))) rfl
theorem tw_245 : (Jvm.Cond.fieldLink "BoyBishop$Standing" (25 : Nat) "BoyBishop$Standing" "was" "[I") ∈ gT := gT_in (List.mem_append_right _ (List.mem_append_right _ (List.mem_append_left _ (List.mem_of_getElem? (i := 5) rfl)))) rfl
theorem tw_248 : (Jvm.Cond.fieldLink "BoyBishop$Standing" (28 : Nat) "BoyBishop$Standing" "age" "[I") ∈ gT := gT_in (List.mem_append_right _ (List.mem_append_right _ (List.mem_append_left _ (List.mem_of_getElem? (i := 8) rfl)))) rfl
theorem tw_250 : (Jvm.Cond.fieldLink "BoyBishop$Standing" (31 : Nat) "BoyBishop$Standing" "given" "[I") ∈ gT := gT_in (List.mem_append_right _ (List.mem_append_right _ (List.mem_append_left _ (List.mem_of_getElem? (i := 10) rfl)))) rfl
theorem tw_252 : (Jvm.Cond.fieldLink "BoyBishop$Standing" (34 : Nat) "BoyBishop$Standing" "laid" "[I") ∈ gT := gT_in (List.mem_append_right _ (List.mem_append_right _ (List.mem_append_left _ (List.mem_of_getElem? (i := 12) rfl)))) rfl
theorem tw_28 : (Jvm.Cond.instanceMethod ({ cls := "java/lang/Object", name := "<init>", desc := "()V" } : Jvm.MethodName)) ∈ gT := gT_in (List.mem_append_right _ (List.mem_append_left _ (List.mem_of_getElem? (i := 28) rfl))) rfl
theorem tw_281 : (Jvm.Cond.fieldLink "BoyBishop$Whole" (9 : Nat) "BoyBishop$Whole" "choir" "LBoyBishop$Choir;") ∈ gT := gT_in (List.mem_append_right _ (List.mem_append_right _ (List.mem_append_left _ (List.mem_of_getElem? (i := 41) rfl)))) rfl
theorem tw_284 : (Jvm.Cond.fieldLink "BoyBishop$Whole" (18 : Nat) "BoyBishop$Whole" "standing" "LBoyBishop$Standing;") ∈ gT := gT_in (List.mem_append_right _ (List.mem_append_right _ (List.mem_append_left _ (List.mem_of_getElem? (i := 44) rfl)))) rfl
theorem tw_286 : (Jvm.Cond.fieldLink "BoyBishop$Whole" (22 : Nat) "BoyBishop$Whole" "force" "I") ∈ gT := gT_in (List.mem_append_right _ (List.mem_append_right _ (List.mem_append_left _ (List.mem_of_getElem? (i := 46) rfl)))) rfl
theorem tw_29 : (Jvm.Cond.code ({ cls := "java/lang/Object", name := "<init>", desc := "()V" } : Jvm.MethodName) object_method_1_code (1 : Nat) (Option.none : Option Jvm.ClassFile.FieldType)) ∈ gT := gT_in (List.mem_append_right _ (List.mem_append_left _ (List.mem_of_getElem? (i := 29) rfl))) rfl
theorem tw_293 : (Jvm.Cond.fieldLink "BoyBishop$Whole" (26 : Nat) "BoyBishop$Whole" "noteDay" "[I") ∈ gT := gT_in (List.mem_append_right _ (List.mem_append_right _ (List.mem_append_left _ (List.mem_of_getElem? (i := 53) rfl)))) rfl
theorem tw_296 : (Jvm.Cond.fieldLink "BoyBishop$Whole" (30 : Nat) "BoyBishop$Whole" "noteBishop" "[I") ∈ gT := gT_in (List.mem_append_right _ (List.mem_append_right _ (List.mem_append_left _ (List.mem_of_getElem? (i := 56) rfl)))) rfl
theorem tw_323 : (Jvm.Cond.methodLink "BoyBishop$Past" (1 : Nat) ({ cls := "java/lang/Object", name := "<init>", desc := "()V" } : Jvm.MethodName)) ∈ gT := gT_in (List.mem_append_right _ (List.mem_append_right _ (List.mem_append_left _ (List.mem_of_getElem? (i := 83) rfl)))) rfl
theorem tw_324 : (Jvm.Cond.classLink "BoyBishop$Past" (9 : Nat) "BoyBishop$Standing") ∈ gT := gT_in (List.mem_append_right _ (List.mem_append_right _ (List.mem_append_left _ (List.mem_of_getElem? (i := 84) rfl)))) rfl
theorem tw_326 : (Jvm.Cond.methodLink "BoyBishop$Past" (15 : Nat) ({ cls := "BoyBishop$Standing", name := "<init>", desc := "()V" } : Jvm.MethodName)) ∈ gT := gT_in (List.mem_append_right _ (List.mem_append_right _ (List.mem_append_left _ (List.mem_of_getElem? (i := 86) rfl)))) rfl
theorem tw_327 : (Jvm.Cond.fieldLink "BoyBishop$Past" (11 : Nat) "BoyBishop$Past" "ring" "[LBoyBishop$Standing;") ∈ gT := gT_in (List.mem_append_right _ (List.mem_append_right _ (List.mem_append_left _ (List.mem_of_getElem? (i := 87) rfl)))) rfl
theorem tw_343 : (Jvm.Cond.methodLink "BoyBishop$Poll" (3 : Nat) ({ cls := "java/lang/Object", name := "<init>", desc := "()V" } : Jvm.MethodName)) ∈ gT := gT_in (List.mem_append_right _ (List.mem_append_right _ (List.mem_append_left _ (List.mem_of_getElem? (i := 103) rfl)))) rfl
theorem tw_346 : (Jvm.Cond.fieldLink "BoyBishop$Poll" (9 : Nat) "BoyBishop$Poll" "wants" "[J") ∈ gT := gT_in (List.mem_append_right _ (List.mem_append_right _ (List.mem_append_left _ (List.mem_of_getElem? (i := 106) rfl)))) rfl
theorem tw_347 : (Jvm.Cond.fieldLink "BoyBishop$Poll" (15 : Nat) "BoyBishop$Poll" "choice" "[I") ∈ gT := gT_in (List.mem_append_right _ (List.mem_append_right _ (List.mem_append_left _ (List.mem_of_getElem? (i := 107) rfl)))) rfl
theorem tw_349 : (Jvm.Cond.fieldLink "BoyBishop$Poll" (19 : Nat) "BoyBishop$Poll" "tally" "[I") ∈ gT := gT_in (List.mem_append_right _ (List.mem_append_right _ (List.mem_append_left _ (List.mem_of_getElem? (i := 109) rfl)))) rfl
theorem tw_35 : (Jvm.Cond.methodLink "BoyBishop$Tape" (3 : Nat) ({ cls := "java/lang/Object", name := "<init>", desc := "()V" } : Jvm.MethodName)) ∈ gT := gT_in (List.mem_append_right _ (List.mem_append_left _ (List.mem_of_getElem? (i := 35) rfl))) rfl
theorem tw_354 : (Jvm.Cond.fieldLink "BoyBishop$Poll" (24 : Nat) "BoyBishop$Poll" "words" "[J") ∈ gT := gT_in (List.mem_append_right _ (List.mem_append_right _ (List.mem_append_left _ (List.mem_of_getElem? (i := 114) rfl)))) rfl
theorem tw_355 : (Jvm.Cond.fieldLink "BoyBishop$Poll" (27 : Nat) "BoyBishop$Poll" "chosenByShares" "[I") ∈ gT := gT_in (List.mem_append_right _ (List.mem_append_right _ (List.mem_append_left _ (List.mem_of_getElem? (i := 115) rfl)))) rfl
theorem tw_36 : (Jvm.Cond.fieldLink "BoyBishop$Tape" (11 : Nat) "BoyBishop$Tape" "bytes" "[B") ∈ gT := gT_in (List.mem_append_right _ (List.mem_append_left _ (List.mem_of_getElem? (i := 36) rfl))) rfl
theorem tw_378 : (Jvm.Cond.methodLink "BoyBishop$Days" (3 : Nat) ({ cls := "java/lang/Object", name := "<init>", desc := "()V" } : Jvm.MethodName)) ∈ gT := gT_in (List.mem_append_right _ (List.mem_append_right _ (List.mem_append_left _ (List.mem_of_getElem? (i := 138) rfl)))) rfl
theorem tw_379 : (Jvm.Cond.fieldLink "BoyBishop$Days" (9 : Nat) "BoyBishop$Days" "poll" "LBoyBishop$Poll;") ∈ gT := gT_in (List.mem_append_right _ (List.mem_append_right _ (List.mem_append_left _ (List.mem_of_getElem? (i := 139) rfl)))) rfl
theorem tw_399 : (Jvm.Cond.methodLink "BoyBishop$Chronicle" (3 : Nat) ({ cls := "java/lang/Object", name := "<init>", desc := "()V" } : Jvm.MethodName)) ∈ gT := gT_in (List.mem_append_right _ (List.mem_append_right _ (List.mem_append_left _ (List.mem_of_getElem? (i := 159) rfl)))) rfl
theorem tw_4 : (Jvm.Cond.initialized "BoyBishop$Choir") ∈ gT := gT_in (List.mem_append_right _ (List.mem_append_left _ (List.mem_of_getElem? (i := 4) rfl))) rfl
theorem tw_400 : (Jvm.Cond.classLink "BoyBishop$Chronicle" (15 : Nat) "BoyBishop$Standing") ∈ gT := gT_in (List.mem_append_right _ (List.mem_append_right _ (List.mem_append_left _ (List.mem_of_getElem? (i := 160) rfl)))) rfl
theorem tw_401 : (Jvm.Cond.methodLink "BoyBishop$Chronicle" (17 : Nat) ({ cls := "BoyBishop$Standing", name := "<init>", desc := "()V" } : Jvm.MethodName)) ∈ gT := gT_in (List.mem_append_right _ (List.mem_append_right _ (List.mem_append_left _ (List.mem_of_getElem? (i := 161) rfl)))) rfl
theorem tw_402 : (Jvm.Cond.classLink "BoyBishop$Chronicle" (26 : Nat) "BoyBishop$Choir") ∈ gT := gT_in (List.mem_append_right _ (List.mem_append_right _ (List.mem_append_left _ (List.mem_of_getElem? (i := 162) rfl)))) rfl
theorem tw_404 : (Jvm.Cond.fieldLink "BoyBishop$Chronicle" (9 : Nat) "BoyBishop$Chronicle" "days" "LBoyBishop$Days;") ∈ gT := gT_in (List.mem_append_right _ (List.mem_append_right _ (List.mem_append_left _ (List.mem_of_getElem? (i := 164) rfl)))) rfl
theorem tw_405 : (Jvm.Cond.fieldLink "BoyBishop$Chronicle" (18 : Nat) "BoyBishop$Chronicle" "standing" "LBoyBishop$Standing;") ∈ gT := gT_in (List.mem_append_right _ (List.mem_append_right _ (List.mem_append_left _ (List.mem_of_getElem? (i := 165) rfl)))) rfl
theorem tw_406 : (Jvm.Cond.fieldLink "BoyBishop$Chronicle" (22 : Nat) "BoyBishop$Chronicle" "bishops" "[I") ∈ gT := gT_in (List.mem_append_right _ (List.mem_append_right _ (List.mem_append_left _ (List.mem_of_getElem? (i := 166) rfl)))) rfl
theorem tw_407 : (Jvm.Cond.fieldLink "BoyBishop$Chronicle" (28 : Nat) "BoyBishop$Chronicle" "toldOf" "[LBoyBishop$Choir;") ∈ gT := gT_in (List.mem_append_right _ (List.mem_append_right _ (List.mem_append_left _ (List.mem_of_getElem? (i := 167) rfl)))) rfl
theorem tw_55 : (Jvm.Cond.arrayClass Jvm.ClassFile.FieldType.byte) ∈ gT := gT_in (List.mem_append_right _ (List.mem_append_left _ (List.mem_of_getElem? (i := 55) rfl))) rfl
theorem tw_61 : (Jvm.Cond.methodLink "BoyBishop$ChoirReader" (3 : Nat) ({ cls := "java/lang/Object", name := "<init>", desc := "()V" } : Jvm.MethodName)) ∈ gT := gT_in (List.mem_append_right _ (List.mem_append_left _ (List.mem_of_getElem? (i := 61) rfl))) rfl
theorem tw_62 : (Jvm.Cond.classLink "BoyBishop$ChoirReader" (9 : Nat) "BoyBishop$Choir") ∈ gT := gT_in (List.mem_append_right _ (List.mem_append_left _ (List.mem_of_getElem? (i := 62) rfl))) rfl
theorem tw_63 : (Jvm.Cond.instantiable "BoyBishop$Choir" (16 : Nat)) ∈ gT := gT_in (List.mem_append_right _ (List.mem_append_left _ (List.mem_of_getElem? (i := 63) rfl))) rfl
theorem tw_64 : (Jvm.Cond.methodLink "BoyBishop$ChoirReader" (11 : Nat) ({ cls := "BoyBishop$Choir", name := "<init>", desc := "()V" } : Jvm.MethodName)) ∈ gT := gT_in (List.mem_append_right _ (List.mem_append_left _ (List.mem_of_getElem? (i := 64) rfl))) rfl
theorem tw_65 : (Jvm.Cond.instanceMethod ({ cls := "BoyBishop$Choir", name := "<init>", desc := "()V" } : Jvm.MethodName)) ∈ gT := gT_in (List.mem_append_right _ (List.mem_append_left _ (List.mem_of_getElem? (i := 65) rfl))) rfl
theorem tw_66 : (Jvm.Cond.code ({ cls := "BoyBishop$Choir", name := "<init>", desc := "()V" } : Jvm.MethodName) prog_2_method_1_code (1 : Nat) (Option.none : Option Jvm.ClassFile.FieldType)) ∈ gT := gT_in (List.mem_append_right _ (List.mem_append_left _ (List.mem_of_getElem? (i := 66) rfl))) rfl
theorem tw_67 : (Jvm.Cond.methodLink "BoyBishop$Choir" (3 : Nat) ({ cls := "java/lang/Object", name := "<init>", desc := "()V" } : Jvm.MethodName)) ∈ gT := gT_in (List.mem_append_right _ (List.mem_append_left _ (List.mem_of_getElem? (i := 67) rfl))) rfl
theorem tw_8 : (Jvm.Cond.initialized "BoyBishop$Standing") ∈ gT := gT_in (List.mem_append_right _ (List.mem_append_left _ (List.mem_of_getElem? (i := 8) rfl))) rfl
theorem tw_90 : (Jvm.Cond.fieldLink "BoyBishop$Choir" (9 : Nat) "BoyBishop$Choir" "voice" "[I") ∈ gT := gT_in (List.mem_append_right _ (List.mem_append_left _ (List.mem_of_getElem? (i := 90) rfl))) rfl
theorem tw_93 : (Jvm.Cond.fieldLink "BoyBishop$Choir" (15 : Nat) "BoyBishop$Choir" "share" "[I") ∈ gT := gT_in (List.mem_append_right _ (List.mem_append_left _ (List.mem_of_getElem? (i := 93) rfl))) rfl
theorem tw_96 : (Jvm.Cond.fieldLink "BoyBishop$Choir" (18 : Nat) "BoyBishop$Choir" "fade" "[I") ∈ gT := gT_in (List.mem_append_right _ (List.mem_append_left _ (List.mem_of_getElem? (i := 96) rfl))) rfl
theorem dX0_init_0 : decode cX0_init 0 = .ok (.aload_n 0, 1) := by decide +kernel
theorem dX0_init_1 : decode cX0_init 1 = .ok (.invokespecial 3, 3) := by decide +kernel
theorem dX0_init_4 : decode cX0_init 4 = .ok (.aload_n 0, 1) := by decide +kernel
theorem dX0_init_5 : decode cX0_init 5 = .ok (.bipush 6, 2) := by decide +kernel
theorem dX0_init_7 : decode cX0_init 7 = .ok (.newarray .int, 2) := by decide +kernel
theorem dX0_init_9 : decode cX0_init 9 = .ok (.putfield 9, 3) := by decide +kernel
theorem dX0_init_12 : decode cX0_init 12 = .ok (.aload_n 0, 1) := by decide +kernel
theorem dX0_init_13 : decode cX0_init 13 = .ok (.bipush 6, 2) := by decide +kernel
theorem dX0_init_15 : decode cX0_init 15 = .ok (.newarray .int, 2) := by decide +kernel
theorem dX0_init_17 : decode cX0_init 17 = .ok (.putfield 15, 3) := by decide +kernel
theorem dX0_init_20 : decode cX0_init 20 = .ok (.aload_n 0, 1) := by decide +kernel
theorem dX0_init_21 : decode cX0_init 21 = .ok (.bipush 6, 2) := by decide +kernel
theorem dX0_init_23 : decode cX0_init 23 = .ok (.newarray .int, 2) := by decide +kernel
theorem dX0_init_25 : decode cX0_init 25 = .ok (.putfield 18, 3) := by decide +kernel
theorem dX0_init_28 : decode cX0_init 28 = .ok (.aload_n 0, 1) := by decide +kernel
theorem dX0_init_29 : decode cX0_init 29 = .ok (.bipush 36, 2) := by decide +kernel
theorem dX0_init_31 : decode cX0_init 31 = .ok (.newarray .int, 2) := by decide +kernel
theorem dX0_init_33 : decode cX0_init 33 = .ok (.putfield 21, 3) := by decide +kernel
theorem dX0_init_36 : decode cX0_init 36 = .ok (.aload_n 0, 1) := by decide +kernel
theorem dX0_init_37 : decode cX0_init 37 = .ok (.iconst 4, 1) := by decide +kernel
theorem dX0_init_38 : decode cX0_init 38 = .ok (.newarray .int, 2) := by decide +kernel
theorem dX0_init_40 : decode cX0_init 40 = .ok (.putfield 24, 3) := by decide +kernel
theorem dX0_init_43 : decode cX0_init 43 = .ok (.aload_n 0, 1) := by decide +kernel
theorem dX0_init_44 : decode cX0_init 44 = .ok (.iconst 4, 1) := by decide +kernel
theorem dX0_init_45 : decode cX0_init 45 = .ok (.newarray .int, 2) := by decide +kernel
theorem dX0_init_47 : decode cX0_init 47 = .ok (.putfield 27, 3) := by decide +kernel
theorem dX0_init_50 : decode cX0_init 50 = .ok (.aload_n 0, 1) := by decide +kernel
theorem dX0_init_51 : decode cX0_init 51 = .ok (.bipush 6, 2) := by decide +kernel
theorem dX0_init_53 : decode cX0_init 53 = .ok (.newarray .int, 2) := by decide +kernel
theorem dX0_init_55 : decode cX0_init 55 = .ok (.putfield 30, 3) := by decide +kernel
theorem dX0_init_58 : decode cX0_init 58 = .ok (.aload_n 0, 1) := by decide +kernel
theorem dX0_init_59 : decode cX0_init 59 = .ok (.bipush 6, 2) := by decide +kernel
theorem dX0_init_61 : decode cX0_init 61 = .ok (.newarray .int, 2) := by decide +kernel
theorem dX0_init_63 : decode cX0_init 63 = .ok (.putfield 33, 3) := by decide +kernel
theorem dX0_init_66 : decode cX0_init 66 = .ok (.aload_n 0, 1) := by decide +kernel
theorem dX0_init_67 : decode cX0_init 67 = .ok (.bipush 49, 2) := by decide +kernel
theorem dX0_init_69 : decode cX0_init 69 = .ok (.newarray .int, 2) := by decide +kernel
theorem dX0_init_71 : decode cX0_init 71 = .ok (.putfield 36, 3) := by decide +kernel
theorem dX0_init_74 : decode cX0_init 74 = .ok (.aload_n 0, 1) := by decide +kernel
theorem dX0_init_75 : decode cX0_init 75 = .ok (.bipush 61, 2) := by decide +kernel
theorem dX0_init_77 : decode cX0_init 77 = .ok (.newarray .boolean, 2) := by decide +kernel
theorem dX0_init_79 : decode cX0_init 79 = .ok (.putfield 39, 3) := by decide +kernel
theorem dX0_init_82 : decode cX0_init 82 = .ok (.return_, 1) := by decide +kernel
theorem dX10_init_0 : decode cX10_init 0 = .ok (.aload_n 0, 1) := by decide +kernel
theorem dX10_init_1 : decode cX10_init 1 = .ok (.invokespecial 3, 3) := by decide +kernel
theorem dX10_init_4 : decode cX10_init 4 = .ok (.aload_n 0, 1) := by decide +kernel
theorem dX10_init_5 : decode cX10_init 5 = .ok (.aload_n 1, 1) := by decide +kernel
theorem dX10_init_6 : decode cX10_init 6 = .ok (.putfield 9, 3) := by decide +kernel
theorem dX10_init_9 : decode cX10_init 9 = .ok (.aload_n 0, 1) := by decide +kernel
theorem dX10_init_10 : decode cX10_init 10 = .ok (.new 15, 3) := by decide +kernel
theorem dX10_init_13 : decode cX10_init 13 = .ok (.dup, 1) := by decide +kernel
theorem dX10_init_14 : decode cX10_init 14 = .ok (.invokespecial 17, 3) := by decide +kernel
theorem dX10_init_17 : decode cX10_init 17 = .ok (.putfield 18, 3) := by decide +kernel
theorem dX10_init_20 : decode cX10_init 20 = .ok (.aload_n 0, 1) := by decide +kernel
theorem dX10_init_21 : decode cX10_init 21 = .ok (.iconst (-1), 1) := by decide +kernel
theorem dX10_init_22 : decode cX10_init 22 = .ok (.putfield 22, 3) := by decide +kernel
theorem dX10_init_25 : decode cX10_init 25 = .ok (.aload_n 0, 1) := by decide +kernel
theorem dX10_init_26 : decode cX10_init 26 = .ok (.bipush 10, 2) := by decide +kernel
theorem dX10_init_28 : decode cX10_init 28 = .ok (.newarray .int, 2) := by decide +kernel
theorem dX10_init_30 : decode cX10_init 30 = .ok (.putfield 26, 3) := by decide +kernel
theorem dX10_init_33 : decode cX10_init 33 = .ok (.aload_n 0, 1) := by decide +kernel
theorem dX10_init_34 : decode cX10_init 34 = .ok (.bipush 10, 2) := by decide +kernel
theorem dX10_init_36 : decode cX10_init 36 = .ok (.newarray .int, 2) := by decide +kernel
theorem dX10_init_38 : decode cX10_init 38 = .ok (.putfield 30, 3) := by decide +kernel
theorem dX10_init_41 : decode cX10_init 41 = .ok (.return_, 1) := by decide +kernel
theorem dX1_init_0 : decode cX1_init 0 = .ok (.aload_n 0, 1) := by decide +kernel
theorem dX1_init_1 : decode cX1_init 1 = .ok (.invokespecial 3, 3) := by decide +kernel
theorem dX1_init_4 : decode cX1_init 4 = .ok (.aload_n 0, 1) := by decide +kernel
theorem dX1_init_5 : decode cX1_init 5 = .ok (.new 9, 3) := by decide +kernel
theorem dX1_init_8 : decode cX1_init 8 = .ok (.dup, 1) := by decide +kernel
theorem dX1_init_9 : decode cX1_init 9 = .ok (.invokespecial 11, 3) := by decide +kernel
theorem dX1_init_12 : decode cX1_init 12 = .ok (.putfield 12, 3) := by decide +kernel
theorem dX1_init_15 : decode cX1_init 15 = .ok (.return_, 1) := by decide +kernel
theorem dX2_init_0 : decode cX2_init 0 = .ok (.aload_n 0, 1) := by decide +kernel
theorem dX2_init_1 : decode cX2_init 1 = .ok (.invokespecial 3, 3) := by decide +kernel
theorem dX2_init_4 : decode cX2_init 4 = .ok (.aload_n 0, 1) := by decide +kernel
theorem dX2_init_5 : decode cX2_init 5 = .ok (.aload_n 1, 1) := by decide +kernel
theorem dX2_init_6 : decode cX2_init 6 = .ok (.putfield 9, 3) := by decide +kernel
theorem dX2_init_9 : decode cX2_init 9 = .ok (.aload_n 0, 1) := by decide +kernel
theorem dX2_init_10 : decode cX2_init 10 = .ok (.new 15, 3) := by decide +kernel
theorem dX2_init_13 : decode cX2_init 13 = .ok (.dup, 1) := by decide +kernel
theorem dX2_init_14 : decode cX2_init 14 = .ok (.invokespecial 17, 3) := by decide +kernel
theorem dX2_init_17 : decode cX2_init 17 = .ok (.putfield 18, 3) := by decide +kernel
theorem dX2_init_20 : decode cX2_init 20 = .ok (.aload_n 0, 1) := by decide +kernel
theorem dX2_init_21 : decode cX2_init 21 = .ok (.sipush 427, 3) := by decide +kernel
theorem dX2_init_24 : decode cX2_init 24 = .ok (.newarray .int, 2) := by decide +kernel
theorem dX2_init_26 : decode cX2_init 26 = .ok (.putfield 22, 3) := by decide +kernel
theorem dX2_init_29 : decode cX2_init 29 = .ok (.aload_n 0, 1) := by decide +kernel
theorem dX2_init_30 : decode cX2_init 30 = .ok (.bipush 7, 2) := by decide +kernel
theorem dX2_init_32 : decode cX2_init 32 = .ok (.anewarray 26, 3) := by decide +kernel
theorem dX2_init_35 : decode cX2_init 35 = .ok (.putfield 28, 3) := by decide +kernel
theorem dX2_init_38 : decode cX2_init 38 = .ok (.return_, 1) := by decide +kernel
theorem dX3_init_0 : decode cX3_init 0 = .ok (.aload_n 0, 1) := by decide +kernel
theorem dX3_init_1 : decode cX3_init 1 = .ok (.invokespecial 3, 3) := by decide +kernel
theorem dX3_init_4 : decode cX3_init 4 = .ok (.aload_n 0, 1) := by decide +kernel
theorem dX3_init_5 : decode cX3_init 5 = .ok (.aload_n 1, 1) := by decide +kernel
theorem dX3_init_6 : decode cX3_init 6 = .ok (.putfield 9, 3) := by decide +kernel
theorem dX3_init_9 : decode cX3_init 9 = .ok (.return_, 1) := by decide +kernel
theorem dX4_init_0 : decode cX4_init 0 = .ok (.aload_n 0, 1) := by decide +kernel
theorem dX4_init_1 : decode cX4_init 1 = .ok (.invokespecial 1, 3) := by decide +kernel
theorem dX4_init_4 : decode cX4_init 4 = .ok (.aload_n 0, 1) := by decide +kernel
theorem dX4_init_5 : decode cX4_init 5 = .ok (.bipush 20, 2) := by decide +kernel
theorem dX4_init_7 : decode cX4_init 7 = .ok (.anewarray 9, 3) := by decide +kernel
theorem dX4_init_10 : decode cX4_init 10 = .ok (.putfield 11, 3) := by decide +kernel
theorem dX4_init_13 : decode cX4_init 13 = .ok (.iconst 0, 1) := by decide +kernel
theorem dX4_init_14 : decode cX4_init 14 = .ok (.istore_n 1, 1) := by decide +kernel
theorem dX4_init_15 : decode cX4_init 15 = .ok (.iload_n 1, 1) := by decide +kernel
theorem dX4_init_16 : decode cX4_init 16 = .ok (.bipush 20, 2) := by decide +kernel
theorem dX4_init_18 : decode cX4_init 18 = .ok (.if_icmp .ge 22, 3) := by decide +kernel
theorem dX4_init_21 : decode cX4_init 21 = .ok (.aload_n 0, 1) := by decide +kernel
theorem dX4_init_22 : decode cX4_init 22 = .ok (.getfield 11, 3) := by decide +kernel
theorem dX4_init_25 : decode cX4_init 25 = .ok (.iload_n 1, 1) := by decide +kernel
theorem dX4_init_26 : decode cX4_init 26 = .ok (.new 9, 3) := by decide +kernel
theorem dX4_init_29 : decode cX4_init 29 = .ok (.dup, 1) := by decide +kernel
theorem dX4_init_30 : decode cX4_init 30 = .ok (.invokespecial 15, 3) := by decide +kernel
theorem dX4_init_33 : decode cX4_init 33 = .ok (.aastore, 1) := by decide +kernel
theorem dX4_init_34 : decode cX4_init 34 = .ok (.iinc 1 1, 3) := by decide +kernel
theorem dX4_init_37 : decode cX4_init 37 = .ok (.goto (-22), 3) := by decide +kernel
theorem dX4_init_40 : decode cX4_init 40 = .ok (.return_, 1) := by decide +kernel
theorem dX5_init_0 : decode cX5_init 0 = .ok (.aload_n 0, 1) := by decide +kernel
theorem dX5_init_1 : decode cX5_init 1 = .ok (.invokespecial 3, 3) := by decide +kernel
theorem dX5_init_4 : decode cX5_init 4 = .ok (.aload_n 0, 1) := by decide +kernel
theorem dX5_init_5 : decode cX5_init 5 = .ok (.bipush 36, 2) := by decide +kernel
theorem dX5_init_7 : decode cX5_init 7 = .ok (.newarray .long, 2) := by decide +kernel
theorem dX5_init_9 : decode cX5_init 9 = .ok (.putfield 9, 3) := by decide +kernel
theorem dX5_init_12 : decode cX5_init 12 = .ok (.aload_n 0, 1) := by decide +kernel
theorem dX5_init_13 : decode cX5_init 13 = .ok (.bipush 6, 2) := by decide +kernel
theorem dX5_init_15 : decode cX5_init 15 = .ok (.newarray .int, 2) := by decide +kernel
theorem dX5_init_17 : decode cX5_init 17 = .ok (.putfield 15, 3) := by decide +kernel
theorem dX5_init_20 : decode cX5_init 20 = .ok (.aload_n 0, 1) := by decide +kernel
theorem dX5_init_21 : decode cX5_init 21 = .ok (.bipush 6, 2) := by decide +kernel
theorem dX5_init_23 : decode cX5_init 23 = .ok (.newarray .int, 2) := by decide +kernel
theorem dX5_init_25 : decode cX5_init 25 = .ok (.putfield 19, 3) := by decide +kernel
theorem dX5_init_28 : decode cX5_init 28 = .ok (.aload_n 0, 1) := by decide +kernel
theorem dX5_init_29 : decode cX5_init 29 = .ok (.bipush 11, 2) := by decide +kernel
theorem dX5_init_31 : decode cX5_init 31 = .ok (.newarray .long, 2) := by decide +kernel
theorem dX5_init_33 : decode cX5_init 33 = .ok (.putfield 24, 3) := by decide +kernel
theorem dX5_init_36 : decode cX5_init 36 = .ok (.aload_n 0, 1) := by decide +kernel
theorem dX5_init_37 : decode cX5_init 37 = .ok (.bipush 25, 2) := by decide +kernel
theorem dX5_init_39 : decode cX5_init 39 = .ok (.newarray .int, 2) := by decide +kernel
theorem dX5_init_41 : decode cX5_init 41 = .ok (.putfield 27, 3) := by decide +kernel
theorem dX5_init_44 : decode cX5_init 44 = .ok (.return_, 1) := by decide +kernel
theorem dX6_init_0 : decode cX6_init 0 = .ok (.aload_n 0, 1) := by decide +kernel
theorem dX6_init_1 : decode cX6_init 1 = .ok (.invokespecial 1, 3) := by decide +kernel
theorem dX6_init_4 : decode cX6_init 4 = .ok (.aload_n 0, 1) := by decide +kernel
theorem dX6_init_5 : decode cX6_init 5 = .ok (.sipush 400, 3) := by decide +kernel
theorem dX6_init_8 : decode cX6_init 8 = .ok (.newarray .int, 2) := by decide +kernel
theorem dX6_init_10 : decode cX6_init 10 = .ok (.putfield 9, 3) := by decide +kernel
theorem dX6_init_13 : decode cX6_init 13 = .ok (.aload_n 0, 1) := by decide +kernel
theorem dX6_init_14 : decode cX6_init 14 = .ok (.bipush 12, 2) := by decide +kernel
theorem dX6_init_16 : decode cX6_init 16 = .ok (.newarray .int, 2) := by decide +kernel
theorem dX6_init_18 : decode cX6_init 18 = .ok (.putfield 15, 3) := by decide +kernel
theorem dX6_init_21 : decode cX6_init 21 = .ok (.aload_n 0, 1) := by decide +kernel
theorem dX6_init_22 : decode cX6_init 22 = .ok (.bipush 12, 2) := by decide +kernel
theorem dX6_init_24 : decode cX6_init 24 = .ok (.newarray .int, 2) := by decide +kernel
theorem dX6_init_26 : decode cX6_init 26 = .ok (.putfield 18, 3) := by decide +kernel
theorem dX6_init_29 : decode cX6_init 29 = .ok (.aload_n 0, 1) := by decide +kernel
theorem dX6_init_30 : decode cX6_init 30 = .ok (.bipush 12, 2) := by decide +kernel
theorem dX6_init_32 : decode cX6_init 32 = .ok (.newarray .int, 2) := by decide +kernel
theorem dX6_init_34 : decode cX6_init 34 = .ok (.putfield 21, 3) := by decide +kernel
theorem dX6_init_37 : decode cX6_init 37 = .ok (.aload_n 0, 1) := by decide +kernel
theorem dX6_init_38 : decode cX6_init 38 = .ok (.bipush 32, 2) := by decide +kernel
theorem dX6_init_40 : decode cX6_init 40 = .ok (.newarray .long, 2) := by decide +kernel
theorem dX6_init_42 : decode cX6_init 42 = .ok (.putfield 24, 3) := by decide +kernel
theorem dX6_init_45 : decode cX6_init 45 = .ok (.return_, 1) := by decide +kernel
theorem dX7_init_0 : decode cX7_init 0 = .ok (.aload_n 0, 1) := by decide +kernel
theorem dX7_init_1 : decode cX7_init 1 = .ok (.invokespecial 3, 3) := by decide +kernel
theorem dX7_init_4 : decode cX7_init 4 = .ok (.return_, 1) := by decide +kernel
theorem dX8_init_0 : decode cX8_init 0 = .ok (.aload_n 0, 1) := by decide +kernel
theorem dX8_init_1 : decode cX8_init 1 = .ok (.invokespecial 3, 3) := by decide +kernel
theorem dX8_init_4 : decode cX8_init 4 = .ok (.aload_n 0, 1) := by decide +kernel
theorem dX8_init_5 : decode cX8_init 5 = .ok (.iconst (-1), 1) := by decide +kernel
theorem dX8_init_6 : decode cX8_init 6 = .ok (.putfield 9, 3) := by decide +kernel
theorem dX8_init_9 : decode cX8_init 9 = .ok (.aload_n 0, 1) := by decide +kernel
theorem dX8_init_10 : decode cX8_init 10 = .ok (.iconst (-1), 1) := by decide +kernel
theorem dX8_init_11 : decode cX8_init 11 = .ok (.putfield 15, 3) := by decide +kernel
theorem dX8_init_14 : decode cX8_init 14 = .ok (.aload_n 0, 1) := by decide +kernel
theorem dX8_init_15 : decode cX8_init 15 = .ok (.bipush 6, 2) := by decide +kernel
theorem dX8_init_17 : decode cX8_init 17 = .ok (.newarray .int, 2) := by decide +kernel
theorem dX8_init_19 : decode cX8_init 19 = .ok (.putfield 18, 3) := by decide +kernel
theorem dX8_init_22 : decode cX8_init 22 = .ok (.aload_n 0, 1) := by decide +kernel
theorem dX8_init_23 : decode cX8_init 23 = .ok (.bipush 6, 2) := by decide +kernel
theorem dX8_init_25 : decode cX8_init 25 = .ok (.newarray .int, 2) := by decide +kernel
theorem dX8_init_27 : decode cX8_init 27 = .ok (.putfield 22, 3) := by decide +kernel
theorem dX8_init_30 : decode cX8_init 30 = .ok (.aload_n 0, 1) := by decide +kernel
theorem dX8_init_31 : decode cX8_init 31 = .ok (.bipush 6, 2) := by decide +kernel
theorem dX8_init_33 : decode cX8_init 33 = .ok (.newarray .int, 2) := by decide +kernel
theorem dX8_init_35 : decode cX8_init 35 = .ok (.putfield 25, 3) := by decide +kernel
theorem dX8_init_38 : decode cX8_init 38 = .ok (.aload_n 0, 1) := by decide +kernel
theorem dX8_init_39 : decode cX8_init 39 = .ok (.iconst 4, 1) := by decide +kernel
theorem dX8_init_40 : decode cX8_init 40 = .ok (.newarray .int, 2) := by decide +kernel
theorem dX8_init_42 : decode cX8_init 42 = .ok (.putfield 28, 3) := by decide +kernel
theorem dX8_init_45 : decode cX8_init 45 = .ok (.aload_n 0, 1) := by decide +kernel
theorem dX8_init_46 : decode cX8_init 46 = .ok (.iconst 4, 1) := by decide +kernel
theorem dX8_init_47 : decode cX8_init 47 = .ok (.newarray .int, 2) := by decide +kernel
theorem dX8_init_49 : decode cX8_init 49 = .ok (.putfield 31, 3) := by decide +kernel
theorem dX8_init_52 : decode cX8_init 52 = .ok (.aload_n 0, 1) := by decide +kernel
theorem dX8_init_53 : decode cX8_init 53 = .ok (.bipush 6, 2) := by decide +kernel
theorem dX8_init_55 : decode cX8_init 55 = .ok (.newarray .int, 2) := by decide +kernel
theorem dX8_init_57 : decode cX8_init 57 = .ok (.putfield 34, 3) := by decide +kernel
theorem dX8_init_60 : decode cX8_init 60 = .ok (.return_, 1) := by decide +kernel
theorem dX9_init_0 : decode cX9_init 0 = .ok (.aload_n 0, 1) := by decide +kernel
theorem dX9_init_1 : decode cX9_init 1 = .ok (.invokespecial 3, 3) := by decide +kernel
theorem dX9_init_4 : decode cX9_init 4 = .ok (.aload_n 0, 1) := by decide +kernel
theorem dX9_init_5 : decode cX9_init 5 = .ok (.sipush 400, 3) := by decide +kernel
theorem dX9_init_8 : decode cX9_init 8 = .ok (.newarray .byte, 2) := by decide +kernel
theorem dX9_init_10 : decode cX9_init 10 = .ok (.putfield 11, 3) := by decide +kernel
theorem dX9_init_13 : decode cX9_init 13 = .ok (.return_, 1) := by decide +kernel
theorem iX0 : ∀ w ∈ u_ws RX0 TX0 16, w ∈ gT := i_of (by decide +kernel)
theorem iX1 : ∀ w ∈ u_ws RX1 TX1 1, w ∈ gT := i_of (by decide +kernel)
theorem iX10 : ∀ w ∈ u_ws RX10 TX10 8, w ∈ gT := i_of (by decide +kernel)
theorem iX2 : ∀ w ∈ u_ws RX2 TX2 5, w ∈ gT := i_of (by decide +kernel)
theorem iX3 : ∀ w ∈ u_ws RX3 TX3 4, w ∈ gT := i_of (by decide +kernel)
theorem iX4 : ∀ w ∈ u_ws RX4 TX4 3, w ∈ gT := i_of (by decide +kernel)
theorem iX5 : ∀ w ∈ u_ws RX5 TX5 8, w ∈ gT := i_of (by decide +kernel)
theorem iX6 : ∀ w ∈ u_ws RX6 TX6 7, w ∈ gT := i_of (by decide +kernel)
theorem iX8 : ∀ w ∈ u_ws RX8 TX8 13, w ∈ gT := i_of (by decide +kernel)
theorem iX9 : ∀ w ∈ u_ws RX9 TX9 4, w ∈ gT := i_of (by decide +kernel)
theorem dfX0 : ∀ j, j < 16 → defaultValue (tyX0 j) = vp_V [.int 0, .int 0, .int 0, .int 0, .int 0, .int 0, .null, .null, .null, .null, .null, .null, .null, .null, .null, .null] j
  | 0, _ => rfl
  | 1, _ => rfl
  | 2, _ => rfl
  | 3, _ => rfl
  | 4, _ => rfl
  | 5, _ => rfl
  | 6, _ => rfl
  | 7, _ => rfl
  | 8, _ => rfl
  | 9, _ => rfl
  | 10, _ => rfl
  | 11, _ => rfl
  | 12, _ => rfl
  | 13, _ => rfl
  | 14, _ => rfl
  | 15, _ => rfl
  | _ + 16, h => absurd h (by omega)
theorem dfX8 : ∀ j, j < 13 → defaultValue (tyX8 j) = vp_V [.int 0, .int 0, .int 0, .int 0, .int 0, .int 0, .int 0, .null, .null, .null, .null, .null, .null] j
  | 0, _ => rfl
  | 1, _ => rfl
  | 2, _ => rfl
  | 3, _ => rfl
  | 4, _ => rfl
  | 5, _ => rfl
  | 6, _ => rfl
  | 7, _ => rfl
  | 8, _ => rfl
  | 9, _ => rfl
  | 10, _ => rfl
  | 11, _ => rfl
  | 12, _ => rfl
  | _ + 13, h => absurd h (by omega)
set_option maxHeartbeats 4000000 in
set_option maxRecDepth 100000 in
/-- Tape(): 400 bytes of 0 -/
theorem c_Tape_init (l : Launch) (dC : Nat → ClassId) (dI : Nat → Nat → Nat) (h0 : Nat) (sz : Nat) : Met l yX9_init (ws_u yX9_init cX9_init 1 none) ({ frames := 1, cells := 1, slots := 400, locals := 28 }) (va_Pc [.ref h0] (cPre (dC, dI) [] [(h0, .inr (9, [.null, .int 0, .int 0, .int 0]))] sz)) (va_Qv (fun _ : Unit => True) (fun _ t => ∃ (q0 : Nat) (k0 : ClassId), cPost (dC, dI) [(k0, .byte)] [(h0, .inr (9, [.ref q0, .int 0, .int 0, .int 0])), (q0, .inl (k0, 400, .inl (fun _ => 0)))] (va_A [(h0, .inr (9, [.null, .int 0, .int 0, .int 0]))] sz) t) (va_A [(h0, .inr (9, [.null, .int 0, .int 0, .int 0]))] sz)) 1 400 (va_A [(h0, .inr (9, [.null, .int 0, .int 0, .int 0]))] sz) := by
  refine Met.ofW (cc := cX9_init) (maxL := 1) (ret := none) (by decide) rfl ?_
  intro p e s m args below meth c s₁ B hml hv
  obtain ⟨rfl, hsz, hP, hK, hD0, hE⟩ := hv
  have hx := B.exec
  have hb := B.bytes
  have hr := B.returns
  have hts0 := atoms_spec (ws := ws_u yX9_init cX9_init 1 none) B.pre
  have hts : ∀ w ∈ gT, w.before _ s = true := fun w h => hts0 w (List.mem_cons_of_mem _ h)
  have hown : s.vm.findClass RX9 = some m.cls := findClass_of_methodNamed B.named
  have hlocks := B.notSynchronized
  have hin : meth.name = "<init>" := (name_of_methodNamed B.named B.method).1
  subst hsz
  have hD := hD0.self (sz := s.heap.size)
  generalize hAe : va_A [(h0, .inr (9, [.null, .int 0, .int 0, .int 0]))] s.heap.size = A at hD ⊢
  have hA : ∀ q : Nat, s.heap.size ≤ q → A q := fun q h => by rw [← hAe]; exact Or.inr h
  have hS : va_S A s.heap s.heap [] := va_S.rf
  have hl := lv_entry ([.ref h0]) (n := 1) (Nat.le_of_ble_eq_true rfl)
  rw [lg_entry_eq]
  generalize (lg_sl ([.ref h0]) ++ List.replicate (1 - (lg_sl ([.ref h0])).length) Slot.unset).toArray = ls at hl ⊢
  have hl : lv_has ls 1 [(0, .ref h0)] := hl
  have hP : va_P (dC, dI) vwCl [(h0, .inr (9, [.null, .int 0, .int 0, .int 0]))] s.heap := hP
  try clear hAe
  refine lv_aload_n hx hb dX9_init_0 rfl (lv_at hl 0 rfl) ?_
  refine W.objInit hx hb hown (hts _ tw_35) (hts _ tw_28) (hts _ tw_29) rfl (by rw [hml]; exact hl.1) rfl dX9_init_1 (Nat.le_of_ble_eq_true rfl) (Nat.le_of_ble_eq_true rfl) ?_
  refine W.eq (g2 := F0 m 4 ls []) rfl ?_
  refine lv_aload_n hx hb dX9_init_4 rfl (lv_at hl 0 rfl) ?_
  refine lv_sipush (v := 400) hx hb dX9_init_5 (by decide) ?_
  refine va_newa (D := (dC, dI)) (a0 := (400, .inl (fun _ => 0))) (N' := 400) (ty := .byte) (atype := .byte) hx hb (hts _ tw_55) rfl hK hP hD hS hA (fun _ => rfl) (by decide) (by decide) (Nat.le_of_ble_eq_true rfl) (Nat.le_of_ble_eq_true rfl) (Nat.le_of_ble_eq_true rfl) dX9_init_8 (fun q_1 k_2 H hK hP hD hS => ?_)
  have hK : va_K (dC, dI) vwCl [(k_2, .byte)] s := hK
  have hP : va_P (dC, dI) vwCl [(h0, .inr (9, [.null, .int 0, .int 0, .int 0])), (q_1, .inl (k_2, 400, .inl (fun _ => 0)))] H := hP
  have hD : va_D A [(h0, .inr (9, [.null, .int 0, .int 0, .int 0])), (q_1, .inl (k_2, 400, .inl (fun _ => 0)))] := hD
  refine va_putF (D := (dC, dI)) (ci := 9) (v := .ref q_1) (C := RX9) (T := TX9) (N := 4) hx hb hts iX9 tyX9 tyX9_ok nmX9 hown hK hP hD hS 0 rfl rfl 0 (by decide) (hts _ tw_36) (fun _ h9 => h9) rfl hin rfl (tyX9_ok 0 (by decide)) rfl rfl (Nat.le_of_ble_eq_true rfl) dX9_init_10 (fun H locs hP hD hS => ?_)
  have hP : va_P (dC, dI) vwCl [(h0, .inr (9, [.ref q_1, .int 0, .int 0, .int 0])), (q_1, .inl (k_2, 400, .inl (fun _ => 0)))] H := hP
  have hD : va_D A [(h0, .inr (9, [.ref q_1, .int 0, .int 0, .int 0])), (q_1, .inl (k_2, 400, .inl (fun _ => 0)))] := hD
  have hP9 := hP.sub (ws' := [(h0, .inr (9, [.ref q_1, .int 0, .int 0, .int 0])), (q_1, .inl (k_2, 400, .inl (fun _ => 0)))]) [0, 1] rfl
  have hD9 := hD.sub (ws' := [(h0, .inr (9, [.ref q_1, .int 0, .int 0, .int 0])), (q_1, .inl (k_2, 400, .inl (fun _ => 0)))]) [0, 1] (by decide) rfl
  have hK9 := hK.sub (tys' := [(k_2, .byte)]) [0] rfl
  refine W.widen (k := 1) (n := 400) (Nat.le_of_ble_eq_true rfl) (Nat.le_of_ble_eq_true rfl) ?_
  exact W.vret hx hb hr (fun t ht hW => ⟨⟨(), rfl, trivial, ⟨q_1, k_2, by rw [ht]; exact hP9, va_K.moved hW.alike hK9, hD9⟩⟩, hS.F ht⟩) hS.2.2 dX9_init_13
set_option maxHeartbeats 4000000 in
set_option maxRecDepth 100000 in
/-- Choir(): ten arrays of 0 -/
theorem c_Choir_init (l : Launch) (dC : Nat → ClassId) (dI : Nat → Nat → Nat) (h0 : Nat) (sz : Nat) : Met l yX0_init (ws_u yX0_init cX0_init 1 none) ({ frames := 1, cells := 10, slots := 184, locals := 28 }) (va_Pc [.ref h0] (cPre (dC, dI) [] [(h0, .inr (0, [.int 0, .int 0, .int 0, .int 0, .int 0, .int 0, .null, .null, .null, .null, .null, .null, .null, .null, .null, .null]))] sz)) (va_Qv (fun _ : Unit => True) (fun _ t => ∃ (q0 : Nat) (k0 : ClassId) (q1 : Nat) (k1 : ClassId) (q2 : Nat) (k2 : ClassId) (q3 : Nat) (k3 : ClassId) (q4 : Nat) (k4 : ClassId) (q5 : Nat) (k5 : ClassId) (q6 : Nat) (k6 : ClassId) (q7 : Nat) (k7 : ClassId) (q8 : Nat) (k8 : ClassId) (q9 : Nat) (k9 : ClassId), cPost (dC, dI) [(k0, .int), (k1, .int), (k2, .int), (k3, .int), (k4, .int), (k5, .int), (k6, .int), (k7, .int), (k8, .int), (k9, .boolean)] [(h0, .inr (0, [.int 0, .int 0, .int 0, .int 0, .int 0, .int 0, .ref q0, .ref q1, .ref q2, .ref q3, .ref q4, .ref q5, .ref q6, .ref q7, .ref q8, .ref q9])), (q0, .inl (k0, 6, .inl (fun _ => 0))), (q1, .inl (k1, 6, .inl (fun _ => 0))), (q2, .inl (k2, 6, .inl (fun _ => 0))), (q3, .inl (k3, 36, .inl (fun _ => 0))), (q4, .inl (k4, 4, .inl (fun _ => 0))), (q5, .inl (k5, 4, .inl (fun _ => 0))), (q6, .inl (k6, 6, .inl (fun _ => 0))), (q7, .inl (k7, 6, .inl (fun _ => 0))), (q8, .inl (k8, 49, .inl (fun _ => 0))), (q9, .inl (k9, 61, .inl (fun _ => 0)))] (va_A [(h0, .inr (0, [.int 0, .int 0, .int 0, .int 0, .int 0, .int 0, .null, .null, .null, .null, .null, .null, .null, .null, .null, .null]))] sz) t) (va_A [(h0, .inr (0, [.int 0, .int 0, .int 0, .int 0, .int 0, .int 0, .null, .null, .null, .null, .null, .null, .null, .null, .null, .null]))] sz)) 10 184 (va_A [(h0, .inr (0, [.int 0, .int 0, .int 0, .int 0, .int 0, .int 0, .null, .null, .null, .null, .null, .null, .null, .null, .null, .null]))] sz) := by
  refine Met.ofW (cc := cX0_init) (maxL := 1) (ret := none) (by decide) rfl ?_
  intro p e s m args below meth c s₁ B hml hv
  obtain ⟨rfl, hsz, hP, hK, hD0, hE⟩ := hv
  have hx := B.exec
  have hb := B.bytes
  have hr := B.returns
  have hts0 := atoms_spec (ws := ws_u yX0_init cX0_init 1 none) B.pre
  have hts : ∀ w ∈ gT, w.before _ s = true := fun w h => hts0 w (List.mem_cons_of_mem _ h)
  have hown : s.vm.findClass RX0 = some m.cls := findClass_of_methodNamed B.named
  have hlocks := B.notSynchronized
  have hin : meth.name = "<init>" := (name_of_methodNamed B.named B.method).1
  subst hsz
  have hD := hD0.self (sz := s.heap.size)
  generalize hAe : va_A [(h0, .inr (0, [.int 0, .int 0, .int 0, .int 0, .int 0, .int 0, .null, .null, .null, .null, .null, .null, .null, .null, .null, .null]))] s.heap.size = A at hD ⊢
  have hA : ∀ q : Nat, s.heap.size ≤ q → A q := fun q h => by rw [← hAe]; exact Or.inr h
  have hS : va_S A s.heap s.heap [] := va_S.rf
  have hl := lv_entry ([.ref h0]) (n := 1) (Nat.le_of_ble_eq_true rfl)
  rw [lg_entry_eq]
  generalize (lg_sl ([.ref h0]) ++ List.replicate (1 - (lg_sl ([.ref h0])).length) Slot.unset).toArray = ls at hl ⊢
  have hl : lv_has ls 1 [(0, .ref h0)] := hl
  have hP : va_P (dC, dI) vwCl [(h0, .inr (0, [.int 0, .int 0, .int 0, .int 0, .int 0, .int 0, .null, .null, .null, .null, .null, .null, .null, .null, .null, .null]))] s.heap := hP
  try clear hAe
  refine lv_aload_n hx hb dX0_init_0 rfl (lv_at hl 0 rfl) ?_
  refine W.objInit hx hb hown (hts _ tw_67) (hts _ tw_28) (hts _ tw_29) rfl (by rw [hml]; exact hl.1) rfl dX0_init_1 (Nat.le_of_ble_eq_true rfl) (Nat.le_of_ble_eq_true rfl) ?_
  refine W.eq (g2 := F0 m 4 ls []) rfl ?_
  refine lv_aload_n hx hb dX0_init_4 rfl (lv_at hl 0 rfl) ?_
  refine lv_bipush (v := 6) hx hb dX0_init_5 (by decide) ?_
  refine va_newa (D := (dC, dI)) (a0 := (6, .inl (fun _ => 0))) (N' := 6) (ty := .int) (atype := .int) hx hb (hts _ tw_154) rfl hK hP hD hS hA (fun _ => rfl) (by decide) (by decide) (Nat.le_of_ble_eq_true rfl) (Nat.le_of_ble_eq_true rfl) (Nat.le_of_ble_eq_true rfl) dX0_init_7 (fun q_1 k_2 H hK hP hD hS => ?_)
  have hK : va_K (dC, dI) vwCl [(k_2, .int)] s := hK
  have hP : va_P (dC, dI) vwCl [(h0, .inr (0, [.int 0, .int 0, .int 0, .int 0, .int 0, .int 0, .null, .null, .null, .null, .null, .null, .null, .null, .null, .null])), (q_1, .inl (k_2, 6, .inl (fun _ => 0)))] H := hP
  have hD : va_D A [(h0, .inr (0, [.int 0, .int 0, .int 0, .int 0, .int 0, .int 0, .null, .null, .null, .null, .null, .null, .null, .null, .null, .null])), (q_1, .inl (k_2, 6, .inl (fun _ => 0)))] := hD
  refine va_putF (D := (dC, dI)) (ci := 0) (v := .ref q_1) (C := RX0) (T := TX0) (N := 16) hx hb hts iX0 tyX0 tyX0_ok nmX0 hown hK hP hD hS 0 rfl rfl 6 (by decide) (hts _ tw_90) (fun _ h9 => h9) rfl hin rfl (tyX0_ok 6 (by decide)) rfl rfl (Nat.le_of_ble_eq_true rfl) dX0_init_9 (fun H locs hP hD hS => ?_)
  have hP : va_P (dC, dI) vwCl [(h0, .inr (0, [.int 0, .int 0, .int 0, .int 0, .int 0, .int 0, .ref q_1, .null, .null, .null, .null, .null, .null, .null, .null, .null])), (q_1, .inl (k_2, 6, .inl (fun _ => 0)))] H := hP
  have hD : va_D A [(h0, .inr (0, [.int 0, .int 0, .int 0, .int 0, .int 0, .int 0, .ref q_1, .null, .null, .null, .null, .null, .null, .null, .null, .null])), (q_1, .inl (k_2, 6, .inl (fun _ => 0)))] := hD
  refine lv_aload_n hx hb dX0_init_12 rfl (lv_at hl 0 rfl) ?_
  refine lv_bipush (v := 6) hx hb dX0_init_13 (by decide) ?_
  refine va_newa (D := (dC, dI)) (a0 := (6, .inl (fun _ => 0))) (N' := 6) (ty := .int) (atype := .int) hx hb (hts _ tw_154) rfl hK hP hD hS hA (fun _ => rfl) (by decide) (by decide) (Nat.le_of_ble_eq_true rfl) (Nat.le_of_ble_eq_true rfl) (Nat.le_of_ble_eq_true rfl) dX0_init_15 (fun q_3 k_4 H hK hP hD hS => ?_)
  have hK : va_K (dC, dI) vwCl [(k_2, .int), (k_4, .int)] s := hK
  have hP : va_P (dC, dI) vwCl [(h0, .inr (0, [.int 0, .int 0, .int 0, .int 0, .int 0, .int 0, .ref q_1, .null, .null, .null, .null, .null, .null, .null, .null, .null])), (q_1, .inl (k_2, 6, .inl (fun _ => 0))), (q_3, .inl (k_4, 6, .inl (fun _ => 0)))] H := hP
  have hD : va_D A [(h0, .inr (0, [.int 0, .int 0, .int 0, .int 0, .int 0, .int 0, .ref q_1, .null, .null, .null, .null, .null, .null, .null, .null, .null])), (q_1, .inl (k_2, 6, .inl (fun _ => 0))), (q_3, .inl (k_4, 6, .inl (fun _ => 0)))] := hD
  refine va_putF (D := (dC, dI)) (ci := 0) (v := .ref q_3) (C := RX0) (T := TX0) (N := 16) hx hb hts iX0 tyX0 tyX0_ok nmX0 hown hK hP hD hS 0 rfl rfl 7 (by decide) (hts _ tw_93) (fun _ h9 => h9) rfl hin rfl (tyX0_ok 7 (by decide)) rfl rfl (Nat.le_of_ble_eq_true rfl) dX0_init_17 (fun H locs hP hD hS => ?_)
  have hP : va_P (dC, dI) vwCl [(h0, .inr (0, [.int 0, .int 0, .int 0, .int 0, .int 0, .int 0, .ref q_1, .ref q_3, .null, .null, .null, .null, .null, .null, .null, .null])), (q_1, .inl (k_2, 6, .inl (fun _ => 0))), (q_3, .inl (k_4, 6, .inl (fun _ => 0)))] H := hP
  have hD : va_D A [(h0, .inr (0, [.int 0, .int 0, .int 0, .int 0, .int 0, .int 0, .ref q_1, .ref q_3, .null, .null, .null, .null, .null, .null, .null, .null])), (q_1, .inl (k_2, 6, .inl (fun _ => 0))), (q_3, .inl (k_4, 6, .inl (fun _ => 0)))] := hD
  refine lv_aload_n hx hb dX0_init_20 rfl (lv_at hl 0 rfl) ?_
  refine lv_bipush (v := 6) hx hb dX0_init_21 (by decide) ?_
  refine va_newa (D := (dC, dI)) (a0 := (6, .inl (fun _ => 0))) (N' := 6) (ty := .int) (atype := .int) hx hb (hts _ tw_154) rfl hK hP hD hS hA (fun _ => rfl) (by decide) (by decide) (Nat.le_of_ble_eq_true rfl) (Nat.le_of_ble_eq_true rfl) (Nat.le_of_ble_eq_true rfl) dX0_init_23 (fun q_5 k_6 H hK hP hD hS => ?_)
  have hK : va_K (dC, dI) vwCl [(k_2, .int), (k_4, .int), (k_6, .int)] s := hK
  have hP : va_P (dC, dI) vwCl [(h0, .inr (0, [.int 0, .int 0, .int 0, .int 0, .int 0, .int 0, .ref q_1, .ref q_3, .null, .null, .null, .null, .null, .null, .null, .null])), (q_1, .inl (k_2, 6, .inl (fun _ => 0))), (q_3, .inl (k_4, 6, .inl (fun _ => 0))), (q_5, .inl (k_6, 6, .inl (fun _ => 0)))] H := hP
  have hD : va_D A [(h0, .inr (0, [.int 0, .int 0, .int 0, .int 0, .int 0, .int 0, .ref q_1, .ref q_3, .null, .null, .null, .null, .null, .null, .null, .null])), (q_1, .inl (k_2, 6, .inl (fun _ => 0))), (q_3, .inl (k_4, 6, .inl (fun _ => 0))), (q_5, .inl (k_6, 6, .inl (fun _ => 0)))] := hD
  refine va_putF (D := (dC, dI)) (ci := 0) (v := .ref q_5) (C := RX0) (T := TX0) (N := 16) hx hb hts iX0 tyX0 tyX0_ok nmX0 hown hK hP hD hS 0 rfl rfl 8 (by decide) (hts _ tw_96) (fun _ h9 => h9) rfl hin rfl (tyX0_ok 8 (by decide)) rfl rfl (Nat.le_of_ble_eq_true rfl) dX0_init_25 (fun H locs hP hD hS => ?_)
  have hP : va_P (dC, dI) vwCl [(h0, .inr (0, [.int 0, .int 0, .int 0, .int 0, .int 0, .int 0, .ref q_1, .ref q_3, .ref q_5, .null, .null, .null, .null, .null, .null, .null])), (q_1, .inl (k_2, 6, .inl (fun _ => 0))), (q_3, .inl (k_4, 6, .inl (fun _ => 0))), (q_5, .inl (k_6, 6, .inl (fun _ => 0)))] H := hP
  have hD : va_D A [(h0, .inr (0, [.int 0, .int 0, .int 0, .int 0, .int 0, .int 0, .ref q_1, .ref q_3, .ref q_5, .null, .null, .null, .null, .null, .null, .null])), (q_1, .inl (k_2, 6, .inl (fun _ => 0))), (q_3, .inl (k_4, 6, .inl (fun _ => 0))), (q_5, .inl (k_6, 6, .inl (fun _ => 0)))] := hD
  refine lv_aload_n hx hb dX0_init_28 rfl (lv_at hl 0 rfl) ?_
  refine lv_bipush (v := 36) hx hb dX0_init_29 (by decide) ?_
  refine va_newa (D := (dC, dI)) (a0 := (36, .inl (fun _ => 0))) (N' := 36) (ty := .int) (atype := .int) hx hb (hts _ tw_154) rfl hK hP hD hS hA (fun _ => rfl) (by decide) (by decide) (Nat.le_of_ble_eq_true rfl) (Nat.le_of_ble_eq_true rfl) (Nat.le_of_ble_eq_true rfl) dX0_init_31 (fun q_7 k_8 H hK hP hD hS => ?_)
  have hK : va_K (dC, dI) vwCl [(k_2, .int), (k_4, .int), (k_6, .int), (k_8, .int)] s := hK
  have hP : va_P (dC, dI) vwCl [(h0, .inr (0, [.int 0, .int 0, .int 0, .int 0, .int 0, .int 0, .ref q_1, .ref q_3, .ref q_5, .null, .null, .null, .null, .null, .null, .null])), (q_1, .inl (k_2, 6, .inl (fun _ => 0))), (q_3, .inl (k_4, 6, .inl (fun _ => 0))), (q_5, .inl (k_6, 6, .inl (fun _ => 0))), (q_7, .inl (k_8, 36, .inl (fun _ => 0)))] H := hP
  have hD : va_D A [(h0, .inr (0, [.int 0, .int 0, .int 0, .int 0, .int 0, .int 0, .ref q_1, .ref q_3, .ref q_5, .null, .null, .null, .null, .null, .null, .null])), (q_1, .inl (k_2, 6, .inl (fun _ => 0))), (q_3, .inl (k_4, 6, .inl (fun _ => 0))), (q_5, .inl (k_6, 6, .inl (fun _ => 0))), (q_7, .inl (k_8, 36, .inl (fun _ => 0)))] := hD
  refine va_putF (D := (dC, dI)) (ci := 0) (v := .ref q_7) (C := RX0) (T := TX0) (N := 16) hx hb hts iX0 tyX0 tyX0_ok nmX0 hown hK hP hD hS 0 rfl rfl 9 (by decide) (hts _ tw_101) (fun _ h9 => h9) rfl hin rfl (tyX0_ok 9 (by decide)) rfl rfl (Nat.le_of_ble_eq_true rfl) dX0_init_33 (fun H locs hP hD hS => ?_)
  have hP : va_P (dC, dI) vwCl [(h0, .inr (0, [.int 0, .int 0, .int 0, .int 0, .int 0, .int 0, .ref q_1, .ref q_3, .ref q_5, .ref q_7, .null, .null, .null, .null, .null, .null])), (q_1, .inl (k_2, 6, .inl (fun _ => 0))), (q_3, .inl (k_4, 6, .inl (fun _ => 0))), (q_5, .inl (k_6, 6, .inl (fun _ => 0))), (q_7, .inl (k_8, 36, .inl (fun _ => 0)))] H := hP
  have hD : va_D A [(h0, .inr (0, [.int 0, .int 0, .int 0, .int 0, .int 0, .int 0, .ref q_1, .ref q_3, .ref q_5, .ref q_7, .null, .null, .null, .null, .null, .null])), (q_1, .inl (k_2, 6, .inl (fun _ => 0))), (q_3, .inl (k_4, 6, .inl (fun _ => 0))), (q_5, .inl (k_6, 6, .inl (fun _ => 0))), (q_7, .inl (k_8, 36, .inl (fun _ => 0)))] := hD
  refine lv_aload_n hx hb dX0_init_36 rfl (lv_at hl 0 rfl) ?_
  refine lv_iconst (v := 4) hx hb dX0_init_37 (by decide) ?_
  refine va_newa (D := (dC, dI)) (a0 := (4, .inl (fun _ => 0))) (N' := 4) (ty := .int) (atype := .int) hx hb (hts _ tw_154) rfl hK hP hD hS hA (fun _ => rfl) (by decide) (by decide) (Nat.le_of_ble_eq_true rfl) (Nat.le_of_ble_eq_true rfl) (Nat.le_of_ble_eq_true rfl) dX0_init_38 (fun q_9 k_10 H hK hP hD hS => ?_)
  have hK : va_K (dC, dI) vwCl [(k_2, .int), (k_4, .int), (k_6, .int), (k_8, .int), (k_10, .int)] s := hK
  have hP : va_P (dC, dI) vwCl [(h0, .inr (0, [.int 0, .int 0, .int 0, .int 0, .int 0, .int 0, .ref q_1, .ref q_3, .ref q_5, .ref q_7, .null, .null, .null, .null, .null, .null])), (q_1, .inl (k_2, 6, .inl (fun _ => 0))), (q_3, .inl (k_4, 6, .inl (fun _ => 0))), (q_5, .inl (k_6, 6, .inl (fun _ => 0))), (q_7, .inl (k_8, 36, .inl (fun _ => 0))), (q_9, .inl (k_10, 4, .inl (fun _ => 0)))] H := hP
  have hD : va_D A [(h0, .inr (0, [.int 0, .int 0, .int 0, .int 0, .int 0, .int 0, .ref q_1, .ref q_3, .ref q_5, .ref q_7, .null, .null, .null, .null, .null, .null])), (q_1, .inl (k_2, 6, .inl (fun _ => 0))), (q_3, .inl (k_4, 6, .inl (fun _ => 0))), (q_5, .inl (k_6, 6, .inl (fun _ => 0))), (q_7, .inl (k_8, 36, .inl (fun _ => 0))), (q_9, .inl (k_10, 4, .inl (fun _ => 0)))] := hD
  refine va_putF (D := (dC, dI)) (ci := 0) (v := .ref q_9) (C := RX0) (T := TX0) (N := 16) hx hb hts iX0 tyX0 tyX0_ok nmX0 hown hK hP hD hS 0 rfl rfl 10 (by decide) (hts _ tw_105) (fun _ h9 => h9) rfl hin rfl (tyX0_ok 10 (by decide)) rfl rfl (Nat.le_of_ble_eq_true rfl) dX0_init_40 (fun H locs hP hD hS => ?_)
  have hP : va_P (dC, dI) vwCl [(h0, .inr (0, [.int 0, .int 0, .int 0, .int 0, .int 0, .int 0, .ref q_1, .ref q_3, .ref q_5, .ref q_7, .ref q_9, .null, .null, .null, .null, .null])), (q_1, .inl (k_2, 6, .inl (fun _ => 0))), (q_3, .inl (k_4, 6, .inl (fun _ => 0))), (q_5, .inl (k_6, 6, .inl (fun _ => 0))), (q_7, .inl (k_8, 36, .inl (fun _ => 0))), (q_9, .inl (k_10, 4, .inl (fun _ => 0)))] H := hP
  have hD : va_D A [(h0, .inr (0, [.int 0, .int 0, .int 0, .int 0, .int 0, .int 0, .ref q_1, .ref q_3, .ref q_5, .ref q_7, .ref q_9, .null, .null, .null, .null, .null])), (q_1, .inl (k_2, 6, .inl (fun _ => 0))), (q_3, .inl (k_4, 6, .inl (fun _ => 0))), (q_5, .inl (k_6, 6, .inl (fun _ => 0))), (q_7, .inl (k_8, 36, .inl (fun _ => 0))), (q_9, .inl (k_10, 4, .inl (fun _ => 0)))] := hD
  refine lv_aload_n hx hb dX0_init_43 rfl (lv_at hl 0 rfl) ?_
  refine lv_iconst (v := 4) hx hb dX0_init_44 (by decide) ?_
  refine va_newa (D := (dC, dI)) (a0 := (4, .inl (fun _ => 0))) (N' := 4) (ty := .int) (atype := .int) hx hb (hts _ tw_154) rfl hK hP hD hS hA (fun _ => rfl) (by decide) (by decide) (Nat.le_of_ble_eq_true rfl) (Nat.le_of_ble_eq_true rfl) (Nat.le_of_ble_eq_true rfl) dX0_init_45 (fun q_11 k_12 H hK hP hD hS => ?_)
  have hK : va_K (dC, dI) vwCl [(k_2, .int), (k_4, .int), (k_6, .int), (k_8, .int), (k_10, .int), (k_12, .int)] s := hK
  have hP : va_P (dC, dI) vwCl [(h0, .inr (0, [.int 0, .int 0, .int 0, .int 0, .int 0, .int 0, .ref q_1, .ref q_3, .ref q_5, .ref q_7, .ref q_9, .null, .null, .null, .null, .null])), (q_1, .inl (k_2, 6, .inl (fun _ => 0))), (q_3, .inl (k_4, 6, .inl (fun _ => 0))), (q_5, .inl (k_6, 6, .inl (fun _ => 0))), (q_7, .inl (k_8, 36, .inl (fun _ => 0))), (q_9, .inl (k_10, 4, .inl (fun _ => 0))), (q_11, .inl (k_12, 4, .inl (fun _ => 0)))] H := hP
  have hD : va_D A [(h0, .inr (0, [.int 0, .int 0, .int 0, .int 0, .int 0, .int 0, .ref q_1, .ref q_3, .ref q_5, .ref q_7, .ref q_9, .null, .null, .null, .null, .null])), (q_1, .inl (k_2, 6, .inl (fun _ => 0))), (q_3, .inl (k_4, 6, .inl (fun _ => 0))), (q_5, .inl (k_6, 6, .inl (fun _ => 0))), (q_7, .inl (k_8, 36, .inl (fun _ => 0))), (q_9, .inl (k_10, 4, .inl (fun _ => 0))), (q_11, .inl (k_12, 4, .inl (fun _ => 0)))] := hD
  refine va_putF (D := (dC, dI)) (ci := 0) (v := .ref q_11) (C := RX0) (T := TX0) (N := 16) hx hb hts iX0 tyX0 tyX0_ok nmX0 hown hK hP hD hS 0 rfl rfl 11 (by decide) (hts _ tw_108) (fun _ h9 => h9) rfl hin rfl (tyX0_ok 11 (by decide)) rfl rfl (Nat.le_of_ble_eq_true rfl) dX0_init_47 (fun H locs hP hD hS => ?_)
  have hP : va_P (dC, dI) vwCl [(h0, .inr (0, [.int 0, .int 0, .int 0, .int 0, .int 0, .int 0, .ref q_1, .ref q_3, .ref q_5, .ref q_7, .ref q_9, .ref q_11, .null, .null, .null, .null])), (q_1, .inl (k_2, 6, .inl (fun _ => 0))), (q_3, .inl (k_4, 6, .inl (fun _ => 0))), (q_5, .inl (k_6, 6, .inl (fun _ => 0))), (q_7, .inl (k_8, 36, .inl (fun _ => 0))), (q_9, .inl (k_10, 4, .inl (fun _ => 0))), (q_11, .inl (k_12, 4, .inl (fun _ => 0)))] H := hP
  have hD : va_D A [(h0, .inr (0, [.int 0, .int 0, .int 0, .int 0, .int 0, .int 0, .ref q_1, .ref q_3, .ref q_5, .ref q_7, .ref q_9, .ref q_11, .null, .null, .null, .null])), (q_1, .inl (k_2, 6, .inl (fun _ => 0))), (q_3, .inl (k_4, 6, .inl (fun _ => 0))), (q_5, .inl (k_6, 6, .inl (fun _ => 0))), (q_7, .inl (k_8, 36, .inl (fun _ => 0))), (q_9, .inl (k_10, 4, .inl (fun _ => 0))), (q_11, .inl (k_12, 4, .inl (fun _ => 0)))] := hD
  refine lv_aload_n hx hb dX0_init_50 rfl (lv_at hl 0 rfl) ?_
  refine lv_bipush (v := 6) hx hb dX0_init_51 (by decide) ?_
  refine va_newa (D := (dC, dI)) (a0 := (6, .inl (fun _ => 0))) (N' := 6) (ty := .int) (atype := .int) hx hb (hts _ tw_154) rfl hK hP hD hS hA (fun _ => rfl) (by decide) (by decide) (Nat.le_of_ble_eq_true rfl) (Nat.le_of_ble_eq_true rfl) (Nat.le_of_ble_eq_true rfl) dX0_init_53 (fun q_13 k_14 H hK hP hD hS => ?_)
  have hK : va_K (dC, dI) vwCl [(k_2, .int), (k_4, .int), (k_6, .int), (k_8, .int), (k_10, .int), (k_12, .int), (k_14, .int)] s := hK
  have hP : va_P (dC, dI) vwCl [(h0, .inr (0, [.int 0, .int 0, .int 0, .int 0, .int 0, .int 0, .ref q_1, .ref q_3, .ref q_5, .ref q_7, .ref q_9, .ref q_11, .null, .null, .null, .null])), (q_1, .inl (k_2, 6, .inl (fun _ => 0))), (q_3, .inl (k_4, 6, .inl (fun _ => 0))), (q_5, .inl (k_6, 6, .inl (fun _ => 0))), (q_7, .inl (k_8, 36, .inl (fun _ => 0))), (q_9, .inl (k_10, 4, .inl (fun _ => 0))), (q_11, .inl (k_12, 4, .inl (fun _ => 0))), (q_13, .inl (k_14, 6, .inl (fun _ => 0)))] H := hP
  have hD : va_D A [(h0, .inr (0, [.int 0, .int 0, .int 0, .int 0, .int 0, .int 0, .ref q_1, .ref q_3, .ref q_5, .ref q_7, .ref q_9, .ref q_11, .null, .null, .null, .null])), (q_1, .inl (k_2, 6, .inl (fun _ => 0))), (q_3, .inl (k_4, 6, .inl (fun _ => 0))), (q_5, .inl (k_6, 6, .inl (fun _ => 0))), (q_7, .inl (k_8, 36, .inl (fun _ => 0))), (q_9, .inl (k_10, 4, .inl (fun _ => 0))), (q_11, .inl (k_12, 4, .inl (fun _ => 0))), (q_13, .inl (k_14, 6, .inl (fun _ => 0)))] := hD
  refine va_putF (D := (dC, dI)) (ci := 0) (v := .ref q_13) (C := RX0) (T := TX0) (N := 16) hx hb hts iX0 tyX0 tyX0_ok nmX0 hown hK hP hD hS 0 rfl rfl 12 (by decide) (hts _ tw_111) (fun _ h9 => h9) rfl hin rfl (tyX0_ok 12 (by decide)) rfl rfl (Nat.le_of_ble_eq_true rfl) dX0_init_55 (fun H locs hP hD hS => ?_)
  have hP : va_P (dC, dI) vwCl [(h0, .inr (0, [.int 0, .int 0, .int 0, .int 0, .int 0, .int 0, .ref q_1, .ref q_3, .ref q_5, .ref q_7, .ref q_9, .ref q_11, .ref q_13, .null, .null, .null])), (q_1, .inl (k_2, 6, .inl (fun _ => 0))), (q_3, .inl (k_4, 6, .inl (fun _ => 0))), (q_5, .inl (k_6, 6, .inl (fun _ => 0))), (q_7, .inl (k_8, 36, .inl (fun _ => 0))), (q_9, .inl (k_10, 4, .inl (fun _ => 0))), (q_11, .inl (k_12, 4, .inl (fun _ => 0))), (q_13, .inl (k_14, 6, .inl (fun _ => 0)))] H := hP
  have hD : va_D A [(h0, .inr (0, [.int 0, .int 0, .int 0, .int 0, .int 0, .int 0, .ref q_1, .ref q_3, .ref q_5, .ref q_7, .ref q_9, .ref q_11, .ref q_13, .null, .null, .null])), (q_1, .inl (k_2, 6, .inl (fun _ => 0))), (q_3, .inl (k_4, 6, .inl (fun _ => 0))), (q_5, .inl (k_6, 6, .inl (fun _ => 0))), (q_7, .inl (k_8, 36, .inl (fun _ => 0))), (q_9, .inl (k_10, 4, .inl (fun _ => 0))), (q_11, .inl (k_12, 4, .inl (fun _ => 0))), (q_13, .inl (k_14, 6, .inl (fun _ => 0)))] := hD
  refine lv_aload_n hx hb dX0_init_58 rfl (lv_at hl 0 rfl) ?_
  refine lv_bipush (v := 6) hx hb dX0_init_59 (by decide) ?_
  refine va_newa (D := (dC, dI)) (a0 := (6, .inl (fun _ => 0))) (N' := 6) (ty := .int) (atype := .int) hx hb (hts _ tw_154) rfl hK hP hD hS hA (fun _ => rfl) (by decide) (by decide) (Nat.le_of_ble_eq_true rfl) (Nat.le_of_ble_eq_true rfl) (Nat.le_of_ble_eq_true rfl) dX0_init_61 (fun q_15 k_16 H hK hP hD hS => ?_)
  have hK : va_K (dC, dI) vwCl [(k_2, .int), (k_4, .int), (k_6, .int), (k_8, .int), (k_10, .int), (k_12, .int), (k_14, .int), (k_16, .int)] s := hK
  have hP : va_P (dC, dI) vwCl [(h0, .inr (0, [.int 0, .int 0, .int 0, .int 0, .int 0, .int 0, .ref q_1, .ref q_3, .ref q_5, .ref q_7, .ref q_9, .ref q_11, .ref q_13, .null, .null, .null])), (q_1, .inl (k_2, 6, .inl (fun _ => 0))), (q_3, .inl (k_4, 6, .inl (fun _ => 0))), (q_5, .inl (k_6, 6, .inl (fun _ => 0))), (q_7, .inl (k_8, 36, .inl (fun _ => 0))), (q_9, .inl (k_10, 4, .inl (fun _ => 0))), (q_11, .inl (k_12, 4, .inl (fun _ => 0))), (q_13, .inl (k_14, 6, .inl (fun _ => 0))), (q_15, .inl (k_16, 6, .inl (fun _ => 0)))] H := hP
  have hD : va_D A [(h0, .inr (0, [.int 0, .int 0, .int 0, .int 0, .int 0, .int 0, .ref q_1, .ref q_3, .ref q_5, .ref q_7, .ref q_9, .ref q_11, .ref q_13, .null, .null, .null])), (q_1, .inl (k_2, 6, .inl (fun _ => 0))), (q_3, .inl (k_4, 6, .inl (fun _ => 0))), (q_5, .inl (k_6, 6, .inl (fun _ => 0))), (q_7, .inl (k_8, 36, .inl (fun _ => 0))), (q_9, .inl (k_10, 4, .inl (fun _ => 0))), (q_11, .inl (k_12, 4, .inl (fun _ => 0))), (q_13, .inl (k_14, 6, .inl (fun _ => 0))), (q_15, .inl (k_16, 6, .inl (fun _ => 0)))] := hD
  refine va_putF (D := (dC, dI)) (ci := 0) (v := .ref q_15) (C := RX0) (T := TX0) (N := 16) hx hb hts iX0 tyX0 tyX0_ok nmX0 hown hK hP hD hS 0 rfl rfl 13 (by decide) (hts _ tw_115) (fun _ h9 => h9) rfl hin rfl (tyX0_ok 13 (by decide)) rfl rfl (Nat.le_of_ble_eq_true rfl) dX0_init_63 (fun H locs hP hD hS => ?_)
  have hP : va_P (dC, dI) vwCl [(h0, .inr (0, [.int 0, .int 0, .int 0, .int 0, .int 0, .int 0, .ref q_1, .ref q_3, .ref q_5, .ref q_7, .ref q_9, .ref q_11, .ref q_13, .ref q_15, .null, .null])), (q_1, .inl (k_2, 6, .inl (fun _ => 0))), (q_3, .inl (k_4, 6, .inl (fun _ => 0))), (q_5, .inl (k_6, 6, .inl (fun _ => 0))), (q_7, .inl (k_8, 36, .inl (fun _ => 0))), (q_9, .inl (k_10, 4, .inl (fun _ => 0))), (q_11, .inl (k_12, 4, .inl (fun _ => 0))), (q_13, .inl (k_14, 6, .inl (fun _ => 0))), (q_15, .inl (k_16, 6, .inl (fun _ => 0)))] H := hP
  have hD : va_D A [(h0, .inr (0, [.int 0, .int 0, .int 0, .int 0, .int 0, .int 0, .ref q_1, .ref q_3, .ref q_5, .ref q_7, .ref q_9, .ref q_11, .ref q_13, .ref q_15, .null, .null])), (q_1, .inl (k_2, 6, .inl (fun _ => 0))), (q_3, .inl (k_4, 6, .inl (fun _ => 0))), (q_5, .inl (k_6, 6, .inl (fun _ => 0))), (q_7, .inl (k_8, 36, .inl (fun _ => 0))), (q_9, .inl (k_10, 4, .inl (fun _ => 0))), (q_11, .inl (k_12, 4, .inl (fun _ => 0))), (q_13, .inl (k_14, 6, .inl (fun _ => 0))), (q_15, .inl (k_16, 6, .inl (fun _ => 0)))] := hD
  refine lv_aload_n hx hb dX0_init_66 rfl (lv_at hl 0 rfl) ?_
  refine lv_bipush (v := 49) hx hb dX0_init_67 (by decide) ?_
  refine va_newa (D := (dC, dI)) (a0 := (49, .inl (fun _ => 0))) (N' := 49) (ty := .int) (atype := .int) hx hb (hts _ tw_154) rfl hK hP hD hS hA (fun _ => rfl) (by decide) (by decide) (Nat.le_of_ble_eq_true rfl) (Nat.le_of_ble_eq_true rfl) (Nat.le_of_ble_eq_true rfl) dX0_init_69 (fun q_17 k_18 H hK hP hD hS => ?_)
  have hK : va_K (dC, dI) vwCl [(k_2, .int), (k_4, .int), (k_6, .int), (k_8, .int), (k_10, .int), (k_12, .int), (k_14, .int), (k_16, .int), (k_18, .int)] s := hK
  have hP : va_P (dC, dI) vwCl [(h0, .inr (0, [.int 0, .int 0, .int 0, .int 0, .int 0, .int 0, .ref q_1, .ref q_3, .ref q_5, .ref q_7, .ref q_9, .ref q_11, .ref q_13, .ref q_15, .null, .null])), (q_1, .inl (k_2, 6, .inl (fun _ => 0))), (q_3, .inl (k_4, 6, .inl (fun _ => 0))), (q_5, .inl (k_6, 6, .inl (fun _ => 0))), (q_7, .inl (k_8, 36, .inl (fun _ => 0))), (q_9, .inl (k_10, 4, .inl (fun _ => 0))), (q_11, .inl (k_12, 4, .inl (fun _ => 0))), (q_13, .inl (k_14, 6, .inl (fun _ => 0))), (q_15, .inl (k_16, 6, .inl (fun _ => 0))), (q_17, .inl (k_18, 49, .inl (fun _ => 0)))] H := hP
  have hD : va_D A [(h0, .inr (0, [.int 0, .int 0, .int 0, .int 0, .int 0, .int 0, .ref q_1, .ref q_3, .ref q_5, .ref q_7, .ref q_9, .ref q_11, .ref q_13, .ref q_15, .null, .null])), (q_1, .inl (k_2, 6, .inl (fun _ => 0))), (q_3, .inl (k_4, 6, .inl (fun _ => 0))), (q_5, .inl (k_6, 6, .inl (fun _ => 0))), (q_7, .inl (k_8, 36, .inl (fun _ => 0))), (q_9, .inl (k_10, 4, .inl (fun _ => 0))), (q_11, .inl (k_12, 4, .inl (fun _ => 0))), (q_13, .inl (k_14, 6, .inl (fun _ => 0))), (q_15, .inl (k_16, 6, .inl (fun _ => 0))), (q_17, .inl (k_18, 49, .inl (fun _ => 0)))] := hD
  refine va_putF (D := (dC, dI)) (ci := 0) (v := .ref q_17) (C := RX0) (T := TX0) (N := 16) hx hb hts iX0 tyX0 tyX0_ok nmX0 hown hK hP hD hS 0 rfl rfl 14 (by decide) (hts _ tw_119) (fun _ h9 => h9) rfl hin rfl (tyX0_ok 14 (by decide)) rfl rfl (Nat.le_of_ble_eq_true rfl) dX0_init_71 (fun H locs hP hD hS => ?_)
  have hP : va_P (dC, dI) vwCl [(h0, .inr (0, [.int 0, .int 0, .int 0, .int 0, .int 0, .int 0, .ref q_1, .ref q_3, .ref q_5, .ref q_7, .ref q_9, .ref q_11, .ref q_13, .ref q_15, .ref q_17, .null])), (q_1, .inl (k_2, 6, .inl (fun _ => 0))), (q_3, .inl (k_4, 6, .inl (fun _ => 0))), (q_5, .inl (k_6, 6, .inl (fun _ => 0))), (q_7, .inl (k_8, 36, .inl (fun _ => 0))), (q_9, .inl (k_10, 4, .inl (fun _ => 0))), (q_11, .inl (k_12, 4, .inl (fun _ => 0))), (q_13, .inl (k_14, 6, .inl (fun _ => 0))), (q_15, .inl (k_16, 6, .inl (fun _ => 0))), (q_17, .inl (k_18, 49, .inl (fun _ => 0)))] H := hP
  have hD : va_D A [(h0, .inr (0, [.int 0, .int 0, .int 0, .int 0, .int 0, .int 0, .ref q_1, .ref q_3, .ref q_5, .ref q_7, .ref q_9, .ref q_11, .ref q_13, .ref q_15, .ref q_17, .null])), (q_1, .inl (k_2, 6, .inl (fun _ => 0))), (q_3, .inl (k_4, 6, .inl (fun _ => 0))), (q_5, .inl (k_6, 6, .inl (fun _ => 0))), (q_7, .inl (k_8, 36, .inl (fun _ => 0))), (q_9, .inl (k_10, 4, .inl (fun _ => 0))), (q_11, .inl (k_12, 4, .inl (fun _ => 0))), (q_13, .inl (k_14, 6, .inl (fun _ => 0))), (q_15, .inl (k_16, 6, .inl (fun _ => 0))), (q_17, .inl (k_18, 49, .inl (fun _ => 0)))] := hD
  refine lv_aload_n hx hb dX0_init_74 rfl (lv_at hl 0 rfl) ?_
  refine lv_bipush (v := 61) hx hb dX0_init_75 (by decide) ?_
  refine va_newa (D := (dC, dI)) (a0 := (61, .inl (fun _ => 0))) (N' := 61) (ty := .boolean) (atype := .boolean) hx hb (hts _ tw_155) rfl hK hP hD hS hA (fun _ => rfl) (by decide) (by decide) (Nat.le_of_ble_eq_true rfl) (Nat.le_of_ble_eq_true rfl) (Nat.le_of_ble_eq_true rfl) dX0_init_77 (fun q_19 k_20 H hK hP hD hS => ?_)
  have hK : va_K (dC, dI) vwCl [(k_2, .int), (k_4, .int), (k_6, .int), (k_8, .int), (k_10, .int), (k_12, .int), (k_14, .int), (k_16, .int), (k_18, .int), (k_20, .boolean)] s := hK
  have hP : va_P (dC, dI) vwCl [(h0, .inr (0, [.int 0, .int 0, .int 0, .int 0, .int 0, .int 0, .ref q_1, .ref q_3, .ref q_5, .ref q_7, .ref q_9, .ref q_11, .ref q_13, .ref q_15, .ref q_17, .null])), (q_1, .inl (k_2, 6, .inl (fun _ => 0))), (q_3, .inl (k_4, 6, .inl (fun _ => 0))), (q_5, .inl (k_6, 6, .inl (fun _ => 0))), (q_7, .inl (k_8, 36, .inl (fun _ => 0))), (q_9, .inl (k_10, 4, .inl (fun _ => 0))), (q_11, .inl (k_12, 4, .inl (fun _ => 0))), (q_13, .inl (k_14, 6, .inl (fun _ => 0))), (q_15, .inl (k_16, 6, .inl (fun _ => 0))), (q_17, .inl (k_18, 49, .inl (fun _ => 0))), (q_19, .inl (k_20, 61, .inl (fun _ => 0)))] H := hP
  have hD : va_D A [(h0, .inr (0, [.int 0, .int 0, .int 0, .int 0, .int 0, .int 0, .ref q_1, .ref q_3, .ref q_5, .ref q_7, .ref q_9, .ref q_11, .ref q_13, .ref q_15, .ref q_17, .null])), (q_1, .inl (k_2, 6, .inl (fun _ => 0))), (q_3, .inl (k_4, 6, .inl (fun _ => 0))), (q_5, .inl (k_6, 6, .inl (fun _ => 0))), (q_7, .inl (k_8, 36, .inl (fun _ => 0))), (q_9, .inl (k_10, 4, .inl (fun _ => 0))), (q_11, .inl (k_12, 4, .inl (fun _ => 0))), (q_13, .inl (k_14, 6, .inl (fun _ => 0))), (q_15, .inl (k_16, 6, .inl (fun _ => 0))), (q_17, .inl (k_18, 49, .inl (fun _ => 0))), (q_19, .inl (k_20, 61, .inl (fun _ => 0)))] := hD
  refine va_putF (D := (dC, dI)) (ci := 0) (v := .ref q_19) (C := RX0) (T := TX0) (N := 16) hx hb hts iX0 tyX0 tyX0_ok nmX0 hown hK hP hD hS 0 rfl rfl 15 (by decide) (hts _ tw_120) (fun _ h9 => h9) rfl hin rfl (tyX0_ok 15 (by decide)) rfl rfl (Nat.le_of_ble_eq_true rfl) dX0_init_79 (fun H locs hP hD hS => ?_)
  have hP : va_P (dC, dI) vwCl [(h0, .inr (0, [.int 0, .int 0, .int 0, .int 0, .int 0, .int 0, .ref q_1, .ref q_3, .ref q_5, .ref q_7, .ref q_9, .ref q_11, .ref q_13, .ref q_15, .ref q_17, .ref q_19])), (q_1, .inl (k_2, 6, .inl (fun _ => 0))), (q_3, .inl (k_4, 6, .inl (fun _ => 0))), (q_5, .inl (k_6, 6, .inl (fun _ => 0))), (q_7, .inl (k_8, 36, .inl (fun _ => 0))), (q_9, .inl (k_10, 4, .inl (fun _ => 0))), (q_11, .inl (k_12, 4, .inl (fun _ => 0))), (q_13, .inl (k_14, 6, .inl (fun _ => 0))), (q_15, .inl (k_16, 6, .inl (fun _ => 0))), (q_17, .inl (k_18, 49, .inl (fun _ => 0))), (q_19, .inl (k_20, 61, .inl (fun _ => 0)))] H := hP
  have hD : va_D A [(h0, .inr (0, [.int 0, .int 0, .int 0, .int 0, .int 0, .int 0, .ref q_1, .ref q_3, .ref q_5, .ref q_7, .ref q_9, .ref q_11, .ref q_13, .ref q_15, .ref q_17, .ref q_19])), (q_1, .inl (k_2, 6, .inl (fun _ => 0))), (q_3, .inl (k_4, 6, .inl (fun _ => 0))), (q_5, .inl (k_6, 6, .inl (fun _ => 0))), (q_7, .inl (k_8, 36, .inl (fun _ => 0))), (q_9, .inl (k_10, 4, .inl (fun _ => 0))), (q_11, .inl (k_12, 4, .inl (fun _ => 0))), (q_13, .inl (k_14, 6, .inl (fun _ => 0))), (q_15, .inl (k_16, 6, .inl (fun _ => 0))), (q_17, .inl (k_18, 49, .inl (fun _ => 0))), (q_19, .inl (k_20, 61, .inl (fun _ => 0)))] := hD
  have hP9 := hP.sub (ws' := [(h0, .inr (0, [.int 0, .int 0, .int 0, .int 0, .int 0, .int 0, .ref q_1, .ref q_3, .ref q_5, .ref q_7, .ref q_9, .ref q_11, .ref q_13, .ref q_15, .ref q_17, .ref q_19])), (q_1, .inl (k_2, 6, .inl (fun _ => 0))), (q_3, .inl (k_4, 6, .inl (fun _ => 0))), (q_5, .inl (k_6, 6, .inl (fun _ => 0))), (q_7, .inl (k_8, 36, .inl (fun _ => 0))), (q_9, .inl (k_10, 4, .inl (fun _ => 0))), (q_11, .inl (k_12, 4, .inl (fun _ => 0))), (q_13, .inl (k_14, 6, .inl (fun _ => 0))), (q_15, .inl (k_16, 6, .inl (fun _ => 0))), (q_17, .inl (k_18, 49, .inl (fun _ => 0))), (q_19, .inl (k_20, 61, .inl (fun _ => 0)))]) [0, 1, 2, 3, 4, 5, 6, 7, 8, 9, 10] rfl
  have hD9 := hD.sub (ws' := [(h0, .inr (0, [.int 0, .int 0, .int 0, .int 0, .int 0, .int 0, .ref q_1, .ref q_3, .ref q_5, .ref q_7, .ref q_9, .ref q_11, .ref q_13, .ref q_15, .ref q_17, .ref q_19])), (q_1, .inl (k_2, 6, .inl (fun _ => 0))), (q_3, .inl (k_4, 6, .inl (fun _ => 0))), (q_5, .inl (k_6, 6, .inl (fun _ => 0))), (q_7, .inl (k_8, 36, .inl (fun _ => 0))), (q_9, .inl (k_10, 4, .inl (fun _ => 0))), (q_11, .inl (k_12, 4, .inl (fun _ => 0))), (q_13, .inl (k_14, 6, .inl (fun _ => 0))), (q_15, .inl (k_16, 6, .inl (fun _ => 0))), (q_17, .inl (k_18, 49, .inl (fun _ => 0))), (q_19, .inl (k_20, 61, .inl (fun _ => 0)))]) [0, 1, 2, 3, 4, 5, 6, 7, 8, 9, 10] (by decide) rfl
  have hK9 := hK.sub (tys' := [(k_2, .int), (k_4, .int), (k_6, .int), (k_8, .int), (k_10, .int), (k_12, .int), (k_14, .int), (k_16, .int), (k_18, .int), (k_20, .boolean)]) [0, 1, 2, 3, 4, 5, 6, 7, 8, 9] rfl
  refine W.widen (k := 10) (n := 184) (Nat.le_of_ble_eq_true rfl) (Nat.le_of_ble_eq_true rfl) ?_
  exact W.vret hx hb hr (fun t ht hW => ⟨⟨(), rfl, trivial, ⟨q_1, k_2, q_3, k_4, q_5, k_6, q_7, k_8, q_9, k_10, q_11, k_12, q_13, k_14, q_15, k_16, q_17, k_18, q_19, k_20, by rw [ht]; exact hP9, va_K.moved hW.alike hK9, hD9⟩⟩, hS.F ht⟩) hS.2.2 dX0_init_82
set_option maxHeartbeats 4000000 in
set_option maxRecDepth 100000 in
/-- ChoirReader(): a spare choir -/
theorem c_ChoirReader_init (l : Launch) (dC : Nat → ClassId) (dI : Nat → Nat → Nat) (h0 : Nat) (sz : Nat) : Met l yX1_init (ws_u yX1_init cX1_init 1 none) ({ frames := 2, cells := 11, slots := 200, locals := 48 }) (va_Pc [.ref h0] (cPre (dC, dI) [] [(h0, .inr (1, [.null]))] sz)) (va_Qv (fun _ : Unit => True) (fun _ t => ∃ (sc : Nat) (sc0 : Nat) (sc1 : Nat) (sc2 : Nat) (sc3 : Nat) (sc4 : Nat) (sc5 : Nat) (sc6 : Nat) (sc7 : Nat) (sc8 : Nat) (sc9 : Nat) (sck3 : ClassId) (sck8 : ClassId) (sck9 : ClassId), cPost (dC, dI) [(sck3, .int), (sck8, .int), (sck9, .boolean)] [(h0, .inr (1, [.ref sc])), (sc, .inr (0, [.int 0, .int 0, .int 0, .int 0, .int 0, .int 0, .ref sc0, .ref sc1, .ref sc2, .ref sc3, .ref sc4, .ref sc5, .ref sc6, .ref sc7, .ref sc8, .ref sc9])), (sc3, .inl (sck3, 36, .inl (fun _ => 0))), (sc8, .inl (sck8, 49, .inl (fun _ => 0))), (sc9, .inl (sck9, 61, .inl (fun _ => 0)))] (va_A [(h0, .inr (1, [.null]))] sz) t) (va_A [(h0, .inr (1, [.null]))] sz)) 11 200 (va_A [(h0, .inr (1, [.null]))] sz) := by
  refine Met.ofW (cc := cX1_init) (maxL := 1) (ret := none) (by decide) rfl ?_
  intro p e s m args below meth c s₁ B hml hv
  obtain ⟨rfl, hsz, hP, hK, hD0, hE⟩ := hv
  have hx := B.exec
  have hb := B.bytes
  have hr := B.returns
  have hts0 := atoms_spec (ws := ws_u yX1_init cX1_init 1 none) B.pre
  have hts : ∀ w ∈ gT, w.before _ s = true := fun w h => hts0 w (List.mem_cons_of_mem _ h)
  have hown : s.vm.findClass RX1 = some m.cls := findClass_of_methodNamed B.named
  have hlocks := B.notSynchronized
  have hin : meth.name = "<init>" := (name_of_methodNamed B.named B.method).1
  subst hsz
  have hD := hD0.self (sz := s.heap.size)
  generalize hAe : va_A [(h0, .inr (1, [.null]))] s.heap.size = A at hD ⊢
  have hA : ∀ q : Nat, s.heap.size ≤ q → A q := fun q h => by rw [← hAe]; exact Or.inr h
  have hS : va_S A s.heap s.heap [] := va_S.rf
  have hl := lv_entry ([.ref h0]) (n := 1) (Nat.le_of_ble_eq_true rfl)
  rw [lg_entry_eq]
  generalize (lg_sl ([.ref h0]) ++ List.replicate (1 - (lg_sl ([.ref h0])).length) Slot.unset).toArray = ls at hl ⊢
  have hl : lv_has ls 1 [(0, .ref h0)] := hl
  have hP : va_P (dC, dI) vwCl [(h0, .inr (1, [.null]))] s.heap := hP
  try clear hAe
  refine lv_aload_n hx hb dX1_init_0 rfl (lv_at hl 0 rfl) ?_
  refine W.objInit hx hb hown (hts _ tw_61) (hts _ tw_28) (hts _ tw_29) rfl (by rw [hml]; exact hl.1) rfl dX1_init_1 (Nat.le_of_ble_eq_true rfl) (Nat.le_of_ble_eq_true rfl) ?_
  refine W.eq (g2 := F0 m 4 ls []) rfl ?_
  refine lv_aload_n hx hb dX1_init_4 rfl (lv_at hl 0 rfl) ?_
  refine va_new (ci := 0) (fs := [.int 0, .int 0, .int 0, .int 0, .int 0, .int 0, .null, .null, .null, .null, .null, .null, .null, .null, .null, .null]) (C := RX0) (T := TX0) (N := 16) hx hb hts iX0 tyX0 tyX0_ok hown (hts _ tw_62) (hts _ tw_63) (hts _ tw_4) hK hP hD hS hA rfl (dfX0) (Nat.le_of_ble_eq_true rfl) (Nat.le_of_ble_eq_true rfl) dX1_init_5 (fun q_1 H hP hD hS => ?_)
  have hP : va_P (dC, dI) vwCl [(h0, .inr (1, [.null])), (q_1, .inr (0, [.int 0, .int 0, .int 0, .int 0, .int 0, .int 0, .null, .null, .null, .null, .null, .null, .null, .null, .null, .null]))] H := hP
  have hD : va_D A [(h0, .inr (1, [.null])), (q_1, .inr (0, [.int 0, .int 0, .int 0, .int 0, .int 0, .int 0, .null, .null, .null, .null, .null, .null, .null, .null, .null, .null]))] := hD
  refine lv_dup hx hb dX1_init_8 rfl ?_
  have hPc := hP.sub (ws' := [(q_1, .inr (0, [.int 0, .int 0, .int 0, .int 0, .int 0, .int 0, .null, .null, .null, .null, .null, .null, .null, .null, .null, .null]))]) [1] rfl
  have hDc := hD.sub (ws' := [(q_1, .inr (0, [.int 0, .int 0, .int 0, .int 0, .int 0, .int 0, .null, .null, .null, .null, .null, .null, .null, .null, .null, .null]))]) [1] (by decide) rfl
  have hKc := hK.sub (tys' := []) [] rfl
  have hFc := va_free (wc := [(q_1, .inr (0, [.int 0, .int 0, .int 0, .int 0, .int 0, .int 0, .null, .null, .null, .null, .null, .null, .null, .null, .null, .null]))]) hD hS hA [1] rfl
  refine va_callv (va_runI (As := []) (rest := [.ref q_1, .ref h0]) ⟨hx, hb, hml, hown, hts⟩ (c_Choir_init l dC dI q_1  H.size) (cwI 0 hts (gU tw_66) rfl rfl rfl (hts _ tw_4) (hts _ tw_64) (hts _ tw_65) rfl (by decide +kernel) ⟨(Nat.le_of_ble_eq_true rfl), (Nat.le_of_ble_eq_true rfl)⟩) ⟨cPre.blind, cPre.use hPc hKc hDc hE⟩ rfl rfl hl.1 rfl (lv_room (Nat.le_of_ble_eq_true rfl)) dX1_init_9 ⟨(Nat.le_of_ble_eq_true rfl), (Nat.le_of_ble_eq_true rfl)⟩) hS (fun q _ h => hFc q h) hFc (fun u t H1 locs ht hvm hw hB hz1 hk1 hS => ?_)
  obtain ⟨q0_3, k0_4, q1_5, k1_6, q2_7, k2_8, q3_9, k3_10, q4_11, k4_12, q5_13, k5_14, q6_15, k6_16, q7_17, k7_18, q8_19, k8_20, q9_21, k9_22, hP1, hK1, hD1⟩ := hB
  rw [ht] at hP1
  obtain ⟨hP, hD⟩ := va_join (wr := [(h0, .inr (1, [.null]))]) (w1 := [(q_1, .inr (0, [.int 0, .int 0, .int 0, .int 0, .int 0, .int 0, .ref q0_3, .ref q1_5, .ref q2_7, .ref q3_9, .ref q4_11, .ref q5_13, .ref q6_15, .ref q7_17, .ref q8_19, .ref q9_21])), (q0_3, .inl (k0_4, 6, .inl (fun _ => 0))), (q1_5, .inl (k1_6, 6, .inl (fun _ => 0))), (q2_7, .inl (k2_8, 6, .inl (fun _ => 0))), (q3_9, .inl (k3_10, 36, .inl (fun _ => 0))), (q4_11, .inl (k4_12, 4, .inl (fun _ => 0))), (q5_13, .inl (k5_14, 4, .inl (fun _ => 0))), (q6_15, .inl (k6_16, 6, .inl (fun _ => 0))), (q7_17, .inl (k7_18, 6, .inl (fun _ => 0))), (q8_19, .inl (k8_20, 49, .inl (fun _ => 0))), (q9_21, .inl (k9_22, 61, .inl (fun _ => 0)))]) hP hD [1] [0] rfl rfl (by decide) (by decide) hk1 hFc hP1 hD1
  have hK1 := va_K.moved hvm.symm hK1
  have hK := hK.app (hK1.sub (tys' := [(k0_4, .int), (k1_6, .int), (k2_8, .int), (k3_10, .int), (k4_12, .int), (k5_14, .int), (k6_16, .int), (k7_18, .int), (k8_20, .int), (k9_22, .boolean)]) [0, 1, 2, 3, 4, 5, 6, 7, 8, 9] rfl)
  have hK : va_K (dC, dI) vwCl [(k0_4, .int), (k1_6, .int), (k2_8, .int), (k3_10, .int), (k4_12, .int), (k5_14, .int), (k6_16, .int), (k7_18, .int), (k8_20, .int), (k9_22, .boolean)] s := hK
  generalize H1 = H at hP hS ⊢
  have hP : va_P (dC, dI) vwCl [(h0, .inr (1, [.null])), (q_1, .inr (0, [.int 0, .int 0, .int 0, .int 0, .int 0, .int 0, .ref q0_3, .ref q1_5, .ref q2_7, .ref q3_9, .ref q4_11, .ref q5_13, .ref q6_15, .ref q7_17, .ref q8_19, .ref q9_21])), (q0_3, .inl (k0_4, 6, .inl (fun _ => 0))), (q1_5, .inl (k1_6, 6, .inl (fun _ => 0))), (q2_7, .inl (k2_8, 6, .inl (fun _ => 0))), (q3_9, .inl (k3_10, 36, .inl (fun _ => 0))), (q4_11, .inl (k4_12, 4, .inl (fun _ => 0))), (q5_13, .inl (k5_14, 4, .inl (fun _ => 0))), (q6_15, .inl (k6_16, 6, .inl (fun _ => 0))), (q7_17, .inl (k7_18, 6, .inl (fun _ => 0))), (q8_19, .inl (k8_20, 49, .inl (fun _ => 0))), (q9_21, .inl (k9_22, 61, .inl (fun _ => 0)))] H := hP
  have hD : va_D A [(h0, .inr (1, [.null])), (q_1, .inr (0, [.int 0, .int 0, .int 0, .int 0, .int 0, .int 0, .ref q0_3, .ref q1_5, .ref q2_7, .ref q3_9, .ref q4_11, .ref q5_13, .ref q6_15, .ref q7_17, .ref q8_19, .ref q9_21])), (q0_3, .inl (k0_4, 6, .inl (fun _ => 0))), (q1_5, .inl (k1_6, 6, .inl (fun _ => 0))), (q2_7, .inl (k2_8, 6, .inl (fun _ => 0))), (q3_9, .inl (k3_10, 36, .inl (fun _ => 0))), (q4_11, .inl (k4_12, 4, .inl (fun _ => 0))), (q5_13, .inl (k5_14, 4, .inl (fun _ => 0))), (q6_15, .inl (k6_16, 6, .inl (fun _ => 0))), (q7_17, .inl (k7_18, 6, .inl (fun _ => 0))), (q8_19, .inl (k8_20, 49, .inl (fun _ => 0))), (q9_21, .inl (k9_22, 61, .inl (fun _ => 0)))] := hD
  refine va_put (D := (dC, dI)) (ci := 1) (v := .ref q_1) (C := RX1) (T := TX1) (N := 1) hx hb hts iX1 tyX1 tyX1_ok nmX1 hown hK hP hD hS 0 rfl rfl 0 (by decide) (hts _ tw_156) (fun _ h9 => h9) rfl (tyX1_ok 0 (by decide)) rfl rfl (Nat.le_of_ble_eq_true rfl) dX1_init_12 (fun H locs hP hD hS => ?_)
  have hP : va_P (dC, dI) vwCl [(h0, .inr (1, [.ref q_1])), (q_1, .inr (0, [.int 0, .int 0, .int 0, .int 0, .int 0, .int 0, .ref q0_3, .ref q1_5, .ref q2_7, .ref q3_9, .ref q4_11, .ref q5_13, .ref q6_15, .ref q7_17, .ref q8_19, .ref q9_21])), (q0_3, .inl (k0_4, 6, .inl (fun _ => 0))), (q1_5, .inl (k1_6, 6, .inl (fun _ => 0))), (q2_7, .inl (k2_8, 6, .inl (fun _ => 0))), (q3_9, .inl (k3_10, 36, .inl (fun _ => 0))), (q4_11, .inl (k4_12, 4, .inl (fun _ => 0))), (q5_13, .inl (k5_14, 4, .inl (fun _ => 0))), (q6_15, .inl (k6_16, 6, .inl (fun _ => 0))), (q7_17, .inl (k7_18, 6, .inl (fun _ => 0))), (q8_19, .inl (k8_20, 49, .inl (fun _ => 0))), (q9_21, .inl (k9_22, 61, .inl (fun _ => 0)))] H := hP
  have hD : va_D A [(h0, .inr (1, [.ref q_1])), (q_1, .inr (0, [.int 0, .int 0, .int 0, .int 0, .int 0, .int 0, .ref q0_3, .ref q1_5, .ref q2_7, .ref q3_9, .ref q4_11, .ref q5_13, .ref q6_15, .ref q7_17, .ref q8_19, .ref q9_21])), (q0_3, .inl (k0_4, 6, .inl (fun _ => 0))), (q1_5, .inl (k1_6, 6, .inl (fun _ => 0))), (q2_7, .inl (k2_8, 6, .inl (fun _ => 0))), (q3_9, .inl (k3_10, 36, .inl (fun _ => 0))), (q4_11, .inl (k4_12, 4, .inl (fun _ => 0))), (q5_13, .inl (k5_14, 4, .inl (fun _ => 0))), (q6_15, .inl (k6_16, 6, .inl (fun _ => 0))), (q7_17, .inl (k7_18, 6, .inl (fun _ => 0))), (q8_19, .inl (k8_20, 49, .inl (fun _ => 0))), (q9_21, .inl (k9_22, 61, .inl (fun _ => 0)))] := hD
  have hP9 := hP.sub (ws' := [(h0, .inr (1, [.ref q_1])), (q_1, .inr (0, [.int 0, .int 0, .int 0, .int 0, .int 0, .int 0, .ref q0_3, .ref q1_5, .ref q2_7, .ref q3_9, .ref q4_11, .ref q5_13, .ref q6_15, .ref q7_17, .ref q8_19, .ref q9_21])), (q3_9, .inl (k3_10, 36, .inl (fun _ => 0))), (q8_19, .inl (k8_20, 49, .inl (fun _ => 0))), (q9_21, .inl (k9_22, 61, .inl (fun _ => 0)))]) [0, 1, 5, 10, 11] rfl
  have hD9 := hD.sub (ws' := [(h0, .inr (1, [.ref q_1])), (q_1, .inr (0, [.int 0, .int 0, .int 0, .int 0, .int 0, .int 0, .ref q0_3, .ref q1_5, .ref q2_7, .ref q3_9, .ref q4_11, .ref q5_13, .ref q6_15, .ref q7_17, .ref q8_19, .ref q9_21])), (q3_9, .inl (k3_10, 36, .inl (fun _ => 0))), (q8_19, .inl (k8_20, 49, .inl (fun _ => 0))), (q9_21, .inl (k9_22, 61, .inl (fun _ => 0)))]) [0, 1, 5, 10, 11] (by decide) rfl
  have hK9 := hK.sub (tys' := [(k3_10, .int), (k8_20, .int), (k9_22, .boolean)]) [3, 8, 9] rfl
  refine W.widen (k := 11) (n := 200) (Nat.le_of_ble_eq_true rfl) (Nat.le_of_ble_eq_true rfl) ?_
  exact W.vret hx hb hr (fun t ht hW => ⟨⟨(), rfl, trivial, ⟨q_1, q0_3, q1_5, q2_7, q3_9, q4_11, q5_13, q6_15, q7_17, q8_19, q9_21, k3_10, k8_20, k9_22, by rw [ht]; exact hP9, va_K.moved hW.alike hK9, hD9⟩⟩, hS.F ht⟩) hS.2.2 dX1_init_15
set_option maxHeartbeats 4000000 in
set_option maxRecDepth 100000 in
/-- RuleReader() -/
theorem c_RuleReader_init (l : Launch) (dC : Nat → ClassId) (dI : Nat → Nat → Nat) (h0 : Nat) (sz : Nat) : Met l yX7_init (ws_u yX7_init cX7_init 1 none) ({ frames := 1, cells := 0, slots := 0, locals := 28 }) (va_Pc [.ref h0] (cPre (dC, dI) [] [(h0, .inr (7, [.null, .null, .int 0]))] sz)) (va_Qv (fun _ : Unit => True) (fun _ t => cPost (dC, dI) [] [(h0, .inr (7, [.null, .null, .int 0]))] (va_A [(h0, .inr (7, [.null, .null, .int 0]))] sz) t) (va_A [(h0, .inr (7, [.null, .null, .int 0]))] sz)) 0 0 (va_A [(h0, .inr (7, [.null, .null, .int 0]))] sz) := by
  refine Met.ofW (cc := cX7_init) (maxL := 1) (ret := none) (by decide) rfl ?_
  intro p e s m args below meth c s₁ B hml hv
  obtain ⟨rfl, hsz, hP, hK, hD0, hE⟩ := hv
  have hx := B.exec
  have hb := B.bytes
  have hr := B.returns
  have hts0 := atoms_spec (ws := ws_u yX7_init cX7_init 1 none) B.pre
  have hts : ∀ w ∈ gT, w.before _ s = true := fun w h => hts0 w (List.mem_cons_of_mem _ h)
  have hown : s.vm.findClass RX7 = some m.cls := findClass_of_methodNamed B.named
  have hlocks := B.notSynchronized
  have hin : meth.name = "<init>" := (name_of_methodNamed B.named B.method).1
  subst hsz
  have hD := hD0.self (sz := s.heap.size)
  generalize hAe : va_A [(h0, .inr (7, [.null, .null, .int 0]))] s.heap.size = A at hD ⊢
  have hA : ∀ q : Nat, s.heap.size ≤ q → A q := fun q h => by rw [← hAe]; exact Or.inr h
  have hS : va_S A s.heap s.heap [] := va_S.rf
  have hl := lv_entry ([.ref h0]) (n := 1) (Nat.le_of_ble_eq_true rfl)
  rw [lg_entry_eq]
  generalize (lg_sl ([.ref h0]) ++ List.replicate (1 - (lg_sl ([.ref h0])).length) Slot.unset).toArray = ls at hl ⊢
  have hl : lv_has ls 1 [(0, .ref h0)] := hl
  have hP : va_P (dC, dI) vwCl [(h0, .inr (7, [.null, .null, .int 0]))] s.heap := hP
  try clear hAe
  refine lv_aload_n hx hb dX7_init_0 rfl (lv_at hl 0 rfl) ?_
  refine W.objInit hx hb hown (hts _ tw_165) (hts _ tw_28) (hts _ tw_29) rfl (by rw [hml]; exact hl.1) rfl dX7_init_1 (Nat.le_of_ble_eq_true rfl) (Nat.le_of_ble_eq_true rfl) ?_
  refine W.eq (g2 := F0 m 4 ls []) rfl ?_
  have hP9 := hP.sub (ws' := [(h0, .inr (7, [.null, .null, .int 0]))]) [0] rfl
  have hD9 := hD.sub (ws' := [(h0, .inr (7, [.null, .null, .int 0]))]) [0] (by decide) rfl
  have hK9 := hK.sub (tys' := []) [] rfl
  refine W.widen (k := 0) (n := 0) (Nat.le_of_ble_eq_true rfl) (Nat.le_of_ble_eq_true rfl) ?_
  exact W.vret hx hb hr (fun t ht hW => ⟨⟨(), rfl, trivial, ⟨by rw [ht]; exact hP9, va_K.moved hW.alike hK9, hD9⟩⟩, hS.F ht⟩) hS.2.2 dX7_init_4
set_option maxHeartbeats 4000000 in
set_option maxRecDepth 100000 in
/-- Rule() -/
theorem c_Rule_init (l : Launch) (dC : Nat → ClassId) (dI : Nat → Nat → Nat) (h0 : Nat) (sz : Nat) : Met l yX6_init (ws_u yX6_init cX6_init 1 none) ({ frames := 1, cells := 5, slots := 468, locals := 28 }) (va_Pc [.ref h0] (cPre (dC, dI) [] [(h0, .inr (6, [.null, .int 0, .null, .null, .null, .int 0, .null]))] sz)) (va_Qv (fun _ : Unit => True) (fun _ t => ∃ (q0 : Nat) (k0 : ClassId) (q1 : Nat) (k1 : ClassId) (q2 : Nat) (k2 : ClassId) (q3 : Nat) (k3 : ClassId) (q4 : Nat) (k4 : ClassId), cPost (dC, dI) [(k0, .int), (k1, .int), (k2, .int), (k3, .int), (k4, .long)] [(h0, .inr (6, [.ref q0, .int 0, .ref q1, .ref q2, .ref q3, .int 0, .ref q4])), (q0, .inl (k0, 400, .inl (fun _ => 0))), (q1, .inl (k1, 12, .inl (fun _ => 0))), (q2, .inl (k2, 12, .inl (fun _ => 0))), (q3, .inl (k3, 12, .inl (fun _ => 0))), (q4, .inl (k4, 32, .inr (.inl (fun _ => 0))))] (va_A [(h0, .inr (6, [.null, .int 0, .null, .null, .null, .int 0, .null]))] sz) t) (va_A [(h0, .inr (6, [.null, .int 0, .null, .null, .null, .int 0, .null]))] sz)) 5 468 (va_A [(h0, .inr (6, [.null, .int 0, .null, .null, .null, .int 0, .null]))] sz) := by
  refine Met.ofW (cc := cX6_init) (maxL := 1) (ret := none) (by decide) rfl ?_
  intro p e s m args below meth c s₁ B hml hv
  obtain ⟨rfl, hsz, hP, hK, hD0, hE⟩ := hv
  have hx := B.exec
  have hb := B.bytes
  have hr := B.returns
  have hts0 := atoms_spec (ws := ws_u yX6_init cX6_init 1 none) B.pre
  have hts : ∀ w ∈ gT, w.before _ s = true := fun w h => hts0 w (List.mem_cons_of_mem _ h)
  have hown : s.vm.findClass RX6 = some m.cls := findClass_of_methodNamed B.named
  have hlocks := B.notSynchronized
  have hin : meth.name = "<init>" := (name_of_methodNamed B.named B.method).1
  subst hsz
  have hD := hD0.self (sz := s.heap.size)
  generalize hAe : va_A [(h0, .inr (6, [.null, .int 0, .null, .null, .null, .int 0, .null]))] s.heap.size = A at hD ⊢
  have hA : ∀ q : Nat, s.heap.size ≤ q → A q := fun q h => by rw [← hAe]; exact Or.inr h
  have hS : va_S A s.heap s.heap [] := va_S.rf
  have hl := lv_entry ([.ref h0]) (n := 1) (Nat.le_of_ble_eq_true rfl)
  rw [lg_entry_eq]
  generalize (lg_sl ([.ref h0]) ++ List.replicate (1 - (lg_sl ([.ref h0])).length) Slot.unset).toArray = ls at hl ⊢
  have hl : lv_has ls 1 [(0, .ref h0)] := hl
  have hP : va_P (dC, dI) vwCl [(h0, .inr (6, [.null, .int 0, .null, .null, .null, .int 0, .null]))] s.heap := hP
  try clear hAe
  refine lv_aload_n hx hb dX6_init_0 rfl (lv_at hl 0 rfl) ?_
  refine W.objInit hx hb hown (hts _ tw_182) (hts _ tw_28) (hts _ tw_29) rfl (by rw [hml]; exact hl.1) rfl dX6_init_1 (Nat.le_of_ble_eq_true rfl) (Nat.le_of_ble_eq_true rfl) ?_
  refine W.eq (g2 := F0 m 4 ls []) rfl ?_
  refine lv_aload_n hx hb dX6_init_4 rfl (lv_at hl 0 rfl) ?_
  refine lv_sipush (v := 400) hx hb dX6_init_5 (by decide) ?_
  refine va_newa (D := (dC, dI)) (a0 := (400, .inl (fun _ => 0))) (N' := 400) (ty := .int) (atype := .int) hx hb (hts _ tw_154) rfl hK hP hD hS hA (fun _ => rfl) (by decide) (by decide) (Nat.le_of_ble_eq_true rfl) (Nat.le_of_ble_eq_true rfl) (Nat.le_of_ble_eq_true rfl) dX6_init_8 (fun q_1 k_2 H hK hP hD hS => ?_)
  have hK : va_K (dC, dI) vwCl [(k_2, .int)] s := hK
  have hP : va_P (dC, dI) vwCl [(h0, .inr (6, [.null, .int 0, .null, .null, .null, .int 0, .null])), (q_1, .inl (k_2, 400, .inl (fun _ => 0)))] H := hP
  have hD : va_D A [(h0, .inr (6, [.null, .int 0, .null, .null, .null, .int 0, .null])), (q_1, .inl (k_2, 400, .inl (fun _ => 0)))] := hD
  refine va_putF (D := (dC, dI)) (ci := 6) (v := .ref q_1) (C := RX6) (T := TX6) (N := 7) hx hb hts iX6 tyX6 tyX6_ok nmX6 hown hK hP hD hS 0 rfl rfl 0 (by decide) (hts _ tw_183) (fun _ h9 => h9) rfl hin rfl (tyX6_ok 0 (by decide)) rfl rfl (Nat.le_of_ble_eq_true rfl) dX6_init_10 (fun H locs hP hD hS => ?_)
  have hP : va_P (dC, dI) vwCl [(h0, .inr (6, [.ref q_1, .int 0, .null, .null, .null, .int 0, .null])), (q_1, .inl (k_2, 400, .inl (fun _ => 0)))] H := hP
  have hD : va_D A [(h0, .inr (6, [.ref q_1, .int 0, .null, .null, .null, .int 0, .null])), (q_1, .inl (k_2, 400, .inl (fun _ => 0)))] := hD
  refine lv_aload_n hx hb dX6_init_13 rfl (lv_at hl 0 rfl) ?_
  refine lv_bipush (v := 12) hx hb dX6_init_14 (by decide) ?_
  refine va_newa (D := (dC, dI)) (a0 := (12, .inl (fun _ => 0))) (N' := 12) (ty := .int) (atype := .int) hx hb (hts _ tw_154) rfl hK hP hD hS hA (fun _ => rfl) (by decide) (by decide) (Nat.le_of_ble_eq_true rfl) (Nat.le_of_ble_eq_true rfl) (Nat.le_of_ble_eq_true rfl) dX6_init_16 (fun q_3 k_4 H hK hP hD hS => ?_)
  have hK : va_K (dC, dI) vwCl [(k_2, .int), (k_4, .int)] s := hK
  have hP : va_P (dC, dI) vwCl [(h0, .inr (6, [.ref q_1, .int 0, .null, .null, .null, .int 0, .null])), (q_1, .inl (k_2, 400, .inl (fun _ => 0))), (q_3, .inl (k_4, 12, .inl (fun _ => 0)))] H := hP
  have hD : va_D A [(h0, .inr (6, [.ref q_1, .int 0, .null, .null, .null, .int 0, .null])), (q_1, .inl (k_2, 400, .inl (fun _ => 0))), (q_3, .inl (k_4, 12, .inl (fun _ => 0)))] := hD
  refine va_putF (D := (dC, dI)) (ci := 6) (v := .ref q_3) (C := RX6) (T := TX6) (N := 7) hx hb hts iX6 tyX6 tyX6_ok nmX6 hown hK hP hD hS 0 rfl rfl 2 (by decide) (hts _ tw_185) (fun _ h9 => h9) rfl hin rfl (tyX6_ok 2 (by decide)) rfl rfl (Nat.le_of_ble_eq_true rfl) dX6_init_18 (fun H locs hP hD hS => ?_)
  have hP : va_P (dC, dI) vwCl [(h0, .inr (6, [.ref q_1, .int 0, .ref q_3, .null, .null, .int 0, .null])), (q_1, .inl (k_2, 400, .inl (fun _ => 0))), (q_3, .inl (k_4, 12, .inl (fun _ => 0)))] H := hP
  have hD : va_D A [(h0, .inr (6, [.ref q_1, .int 0, .ref q_3, .null, .null, .int 0, .null])), (q_1, .inl (k_2, 400, .inl (fun _ => 0))), (q_3, .inl (k_4, 12, .inl (fun _ => 0)))] := hD
  refine lv_aload_n hx hb dX6_init_21 rfl (lv_at hl 0 rfl) ?_
  refine lv_bipush (v := 12) hx hb dX6_init_22 (by decide) ?_
  refine va_newa (D := (dC, dI)) (a0 := (12, .inl (fun _ => 0))) (N' := 12) (ty := .int) (atype := .int) hx hb (hts _ tw_154) rfl hK hP hD hS hA (fun _ => rfl) (by decide) (by decide) (Nat.le_of_ble_eq_true rfl) (Nat.le_of_ble_eq_true rfl) (Nat.le_of_ble_eq_true rfl) dX6_init_24 (fun q_5 k_6 H hK hP hD hS => ?_)
  have hK : va_K (dC, dI) vwCl [(k_2, .int), (k_4, .int), (k_6, .int)] s := hK
  have hP : va_P (dC, dI) vwCl [(h0, .inr (6, [.ref q_1, .int 0, .ref q_3, .null, .null, .int 0, .null])), (q_1, .inl (k_2, 400, .inl (fun _ => 0))), (q_3, .inl (k_4, 12, .inl (fun _ => 0))), (q_5, .inl (k_6, 12, .inl (fun _ => 0)))] H := hP
  have hD : va_D A [(h0, .inr (6, [.ref q_1, .int 0, .ref q_3, .null, .null, .int 0, .null])), (q_1, .inl (k_2, 400, .inl (fun _ => 0))), (q_3, .inl (k_4, 12, .inl (fun _ => 0))), (q_5, .inl (k_6, 12, .inl (fun _ => 0)))] := hD
  refine va_putF (D := (dC, dI)) (ci := 6) (v := .ref q_5) (C := RX6) (T := TX6) (N := 7) hx hb hts iX6 tyX6 tyX6_ok nmX6 hown hK hP hD hS 0 rfl rfl 3 (by decide) (hts _ tw_186) (fun _ h9 => h9) rfl hin rfl (tyX6_ok 3 (by decide)) rfl rfl (Nat.le_of_ble_eq_true rfl) dX6_init_26 (fun H locs hP hD hS => ?_)
  have hP : va_P (dC, dI) vwCl [(h0, .inr (6, [.ref q_1, .int 0, .ref q_3, .ref q_5, .null, .int 0, .null])), (q_1, .inl (k_2, 400, .inl (fun _ => 0))), (q_3, .inl (k_4, 12, .inl (fun _ => 0))), (q_5, .inl (k_6, 12, .inl (fun _ => 0)))] H := hP
  have hD : va_D A [(h0, .inr (6, [.ref q_1, .int 0, .ref q_3, .ref q_5, .null, .int 0, .null])), (q_1, .inl (k_2, 400, .inl (fun _ => 0))), (q_3, .inl (k_4, 12, .inl (fun _ => 0))), (q_5, .inl (k_6, 12, .inl (fun _ => 0)))] := hD
  refine lv_aload_n hx hb dX6_init_29 rfl (lv_at hl 0 rfl) ?_
  refine lv_bipush (v := 12) hx hb dX6_init_30 (by decide) ?_
  refine va_newa (D := (dC, dI)) (a0 := (12, .inl (fun _ => 0))) (N' := 12) (ty := .int) (atype := .int) hx hb (hts _ tw_154) rfl hK hP hD hS hA (fun _ => rfl) (by decide) (by decide) (Nat.le_of_ble_eq_true rfl) (Nat.le_of_ble_eq_true rfl) (Nat.le_of_ble_eq_true rfl) dX6_init_32 (fun q_7 k_8 H hK hP hD hS => ?_)
  have hK : va_K (dC, dI) vwCl [(k_2, .int), (k_4, .int), (k_6, .int), (k_8, .int)] s := hK
  have hP : va_P (dC, dI) vwCl [(h0, .inr (6, [.ref q_1, .int 0, .ref q_3, .ref q_5, .null, .int 0, .null])), (q_1, .inl (k_2, 400, .inl (fun _ => 0))), (q_3, .inl (k_4, 12, .inl (fun _ => 0))), (q_5, .inl (k_6, 12, .inl (fun _ => 0))), (q_7, .inl (k_8, 12, .inl (fun _ => 0)))] H := hP
  have hD : va_D A [(h0, .inr (6, [.ref q_1, .int 0, .ref q_3, .ref q_5, .null, .int 0, .null])), (q_1, .inl (k_2, 400, .inl (fun _ => 0))), (q_3, .inl (k_4, 12, .inl (fun _ => 0))), (q_5, .inl (k_6, 12, .inl (fun _ => 0))), (q_7, .inl (k_8, 12, .inl (fun _ => 0)))] := hD
  refine va_putF (D := (dC, dI)) (ci := 6) (v := .ref q_7) (C := RX6) (T := TX6) (N := 7) hx hb hts iX6 tyX6 tyX6_ok nmX6 hown hK hP hD hS 0 rfl rfl 4 (by decide) (hts _ tw_187) (fun _ h9 => h9) rfl hin rfl (tyX6_ok 4 (by decide)) rfl rfl (Nat.le_of_ble_eq_true rfl) dX6_init_34 (fun H locs hP hD hS => ?_)
  have hP : va_P (dC, dI) vwCl [(h0, .inr (6, [.ref q_1, .int 0, .ref q_3, .ref q_5, .ref q_7, .int 0, .null])), (q_1, .inl (k_2, 400, .inl (fun _ => 0))), (q_3, .inl (k_4, 12, .inl (fun _ => 0))), (q_5, .inl (k_6, 12, .inl (fun _ => 0))), (q_7, .inl (k_8, 12, .inl (fun _ => 0)))] H := hP
  have hD : va_D A [(h0, .inr (6, [.ref q_1, .int 0, .ref q_3, .ref q_5, .ref q_7, .int 0, .null])), (q_1, .inl (k_2, 400, .inl (fun _ => 0))), (q_3, .inl (k_4, 12, .inl (fun _ => 0))), (q_5, .inl (k_6, 12, .inl (fun _ => 0))), (q_7, .inl (k_8, 12, .inl (fun _ => 0)))] := hD
  refine lv_aload_n hx hb dX6_init_37 rfl (lv_at hl 0 rfl) ?_
  refine lv_bipush (v := 32) hx hb dX6_init_38 (by decide) ?_
  refine va_newa (D := (dC, dI)) (a0 := (32, .inr (.inl (fun _ => 0)))) (N' := 32) (ty := .long) (atype := .long) hx hb (hts _ tw_205) rfl hK hP hD hS hA (fun _ => rfl) (by decide) (by decide) (Nat.le_of_ble_eq_true rfl) (Nat.le_of_ble_eq_true rfl) (Nat.le_of_ble_eq_true rfl) dX6_init_40 (fun q_9 k_10 H hK hP hD hS => ?_)
  have hK : va_K (dC, dI) vwCl [(k_2, .int), (k_4, .int), (k_6, .int), (k_8, .int), (k_10, .long)] s := hK
  have hP : va_P (dC, dI) vwCl [(h0, .inr (6, [.ref q_1, .int 0, .ref q_3, .ref q_5, .ref q_7, .int 0, .null])), (q_1, .inl (k_2, 400, .inl (fun _ => 0))), (q_3, .inl (k_4, 12, .inl (fun _ => 0))), (q_5, .inl (k_6, 12, .inl (fun _ => 0))), (q_7, .inl (k_8, 12, .inl (fun _ => 0))), (q_9, .inl (k_10, 32, .inr (.inl (fun _ => 0))))] H := hP
  have hD : va_D A [(h0, .inr (6, [.ref q_1, .int 0, .ref q_3, .ref q_5, .ref q_7, .int 0, .null])), (q_1, .inl (k_2, 400, .inl (fun _ => 0))), (q_3, .inl (k_4, 12, .inl (fun _ => 0))), (q_5, .inl (k_6, 12, .inl (fun _ => 0))), (q_7, .inl (k_8, 12, .inl (fun _ => 0))), (q_9, .inl (k_10, 32, .inr (.inl (fun _ => 0))))] := hD
  refine va_putF (D := (dC, dI)) (ci := 6) (v := .ref q_9) (C := RX6) (T := TX6) (N := 7) hx hb hts iX6 tyX6 tyX6_ok nmX6 hown hK hP hD hS 0 rfl rfl 6 (by decide) (hts _ tw_189) (fun _ h9 => h9) rfl hin rfl (tyX6_ok 6 (by decide)) rfl rfl (Nat.le_of_ble_eq_true rfl) dX6_init_42 (fun H locs hP hD hS => ?_)
  have hP : va_P (dC, dI) vwCl [(h0, .inr (6, [.ref q_1, .int 0, .ref q_3, .ref q_5, .ref q_7, .int 0, .ref q_9])), (q_1, .inl (k_2, 400, .inl (fun _ => 0))), (q_3, .inl (k_4, 12, .inl (fun _ => 0))), (q_5, .inl (k_6, 12, .inl (fun _ => 0))), (q_7, .inl (k_8, 12, .inl (fun _ => 0))), (q_9, .inl (k_10, 32, .inr (.inl (fun _ => 0))))] H := hP
  have hD : va_D A [(h0, .inr (6, [.ref q_1, .int 0, .ref q_3, .ref q_5, .ref q_7, .int 0, .ref q_9])), (q_1, .inl (k_2, 400, .inl (fun _ => 0))), (q_3, .inl (k_4, 12, .inl (fun _ => 0))), (q_5, .inl (k_6, 12, .inl (fun _ => 0))), (q_7, .inl (k_8, 12, .inl (fun _ => 0))), (q_9, .inl (k_10, 32, .inr (.inl (fun _ => 0))))] := hD
  have hP9 := hP.sub (ws' := [(h0, .inr (6, [.ref q_1, .int 0, .ref q_3, .ref q_5, .ref q_7, .int 0, .ref q_9])), (q_1, .inl (k_2, 400, .inl (fun _ => 0))), (q_3, .inl (k_4, 12, .inl (fun _ => 0))), (q_5, .inl (k_6, 12, .inl (fun _ => 0))), (q_7, .inl (k_8, 12, .inl (fun _ => 0))), (q_9, .inl (k_10, 32, .inr (.inl (fun _ => 0))))]) [0, 1, 2, 3, 4, 5] rfl
  have hD9 := hD.sub (ws' := [(h0, .inr (6, [.ref q_1, .int 0, .ref q_3, .ref q_5, .ref q_7, .int 0, .ref q_9])), (q_1, .inl (k_2, 400, .inl (fun _ => 0))), (q_3, .inl (k_4, 12, .inl (fun _ => 0))), (q_5, .inl (k_6, 12, .inl (fun _ => 0))), (q_7, .inl (k_8, 12, .inl (fun _ => 0))), (q_9, .inl (k_10, 32, .inr (.inl (fun _ => 0))))]) [0, 1, 2, 3, 4, 5] (by decide) rfl
  have hK9 := hK.sub (tys' := [(k_2, .int), (k_4, .int), (k_6, .int), (k_8, .int), (k_10, .long)]) [0, 1, 2, 3, 4] rfl
  refine W.widen (k := 5) (n := 468) (Nat.le_of_ble_eq_true rfl) (Nat.le_of_ble_eq_true rfl) ?_
  exact W.vret hx hb hr (fun t ht hW => ⟨⟨(), rfl, trivial, ⟨q_1, k_2, q_3, k_4, q_5, k_6, q_7, k_8, q_9, k_10, by rw [ht]; exact hP9, va_K.moved hW.alike hK9, hD9⟩⟩, hS.F ht⟩) hS.2.2 dX6_init_45
set_option maxHeartbeats 4000000 in
set_option maxRecDepth 100000 in
/-- Standing(): nobody, no first day -/
theorem c_Standing_init (l : Launch) (dC : Nat → ClassId) (dI : Nat → Nat → Nat) (h0 : Nat) (sz : Nat) : Met l yX8_init (ws_u yX8_init cX8_init 1 none) ({ frames := 1, cells := 6, slots := 32, locals := 28 }) (va_Pc [.ref h0] (cPre (dC, dI) [] [(h0, .inr (8, [.int 0, .int 0, .int 0, .int 0, .int 0, .int 0, .int 0, .null, .null, .null, .null, .null, .null]))] sz)) (va_Qv (fun _ : Unit => True) (fun _ t => ∃ (q0 : Nat) (k0 : ClassId) (q1 : Nat) (k1 : ClassId) (q2 : Nat) (k2 : ClassId) (q3 : Nat) (k3 : ClassId) (q4 : Nat) (k4 : ClassId) (q5 : Nat) (k5 : ClassId), cPost (dC, dI) [(k0, .int), (k1, .int), (k2, .int), (k3, .int), (k4, .int), (k5, .int)] [(h0, .inr (8, [.int 0, .int (-1), .int (-1), .int 0, .int 0, .int 0, .int 0, .ref q0, .ref q1, .ref q2, .ref q3, .ref q4, .ref q5])), (q0, .inl (k0, 6, .inl (fun _ => 0))), (q1, .inl (k1, 6, .inl (fun _ => 0))), (q2, .inl (k2, 6, .inl (fun _ => 0))), (q3, .inl (k3, 4, .inl (fun _ => 0))), (q4, .inl (k4, 4, .inl (fun _ => 0))), (q5, .inl (k5, 6, .inl (fun _ => 0)))] (va_A [(h0, .inr (8, [.int 0, .int 0, .int 0, .int 0, .int 0, .int 0, .int 0, .null, .null, .null, .null, .null, .null]))] sz) t) (va_A [(h0, .inr (8, [.int 0, .int 0, .int 0, .int 0, .int 0, .int 0, .int 0, .null, .null, .null, .null, .null, .null]))] sz)) 6 32 (va_A [(h0, .inr (8, [.int 0, .int 0, .int 0, .int 0, .int 0, .int 0, .int 0, .null, .null, .null, .null, .null, .null]))] sz) := by
  refine Met.ofW (cc := cX8_init) (maxL := 1) (ret := none) (by decide) rfl ?_
  intro p e s m args below meth c s₁ B hml hv
  obtain ⟨rfl, hsz, hP, hK, hD0, hE⟩ := hv
  have hx := B.exec
  have hb := B.bytes
  have hr := B.returns
  have hts0 := atoms_spec (ws := ws_u yX8_init cX8_init 1 none) B.pre
  have hts : ∀ w ∈ gT, w.before _ s = true := fun w h => hts0 w (List.mem_cons_of_mem _ h)
  have hown : s.vm.findClass RX8 = some m.cls := findClass_of_methodNamed B.named
  have hlocks := B.notSynchronized
  have hin : meth.name = "<init>" := (name_of_methodNamed B.named B.method).1
  subst hsz
  have hD := hD0.self (sz := s.heap.size)
  generalize hAe : va_A [(h0, .inr (8, [.int 0, .int 0, .int 0, .int 0, .int 0, .int 0, .int 0, .null, .null, .null, .null, .null, .null]))] s.heap.size = A at hD ⊢
  have hA : ∀ q : Nat, s.heap.size ≤ q → A q := fun q h => by rw [← hAe]; exact Or.inr h
  have hS : va_S A s.heap s.heap [] := va_S.rf
  have hl := lv_entry ([.ref h0]) (n := 1) (Nat.le_of_ble_eq_true rfl)
  rw [lg_entry_eq]
  generalize (lg_sl ([.ref h0]) ++ List.replicate (1 - (lg_sl ([.ref h0])).length) Slot.unset).toArray = ls at hl ⊢
  have hl : lv_has ls 1 [(0, .ref h0)] := hl
  have hP : va_P (dC, dI) vwCl [(h0, .inr (8, [.int 0, .int 0, .int 0, .int 0, .int 0, .int 0, .int 0, .null, .null, .null, .null, .null, .null]))] s.heap := hP
  try clear hAe
  refine lv_aload_n hx hb dX8_init_0 rfl (lv_at hl 0 rfl) ?_
  refine W.objInit hx hb hown (hts _ tw_219) (hts _ tw_28) (hts _ tw_29) rfl (by rw [hml]; exact hl.1) rfl dX8_init_1 (Nat.le_of_ble_eq_true rfl) (Nat.le_of_ble_eq_true rfl) ?_
  refine W.eq (g2 := F0 m 4 ls []) rfl ?_
  refine lv_aload_n hx hb dX8_init_4 rfl (lv_at hl 0 rfl) ?_
  refine lv_iconst (v := (-1)) hx hb dX8_init_5 (by decide) ?_
  refine va_put (D := (dC, dI)) (ci := 8) (v := .int (-1)) (C := RX8) (T := TX8) (N := 13) hx hb hts iX8 tyX8 tyX8_ok nmX8 hown hK hP hD hS 0 rfl rfl 1 (by decide) (hts _ tw_223) (fun _ h9 => h9) rfl (tyX8_ok 1 (by decide)) rfl rfl (Nat.le_of_ble_eq_true rfl) dX8_init_6 (fun H locs hP hD hS => ?_)
  have hP : va_P (dC, dI) vwCl [(h0, .inr (8, [.int 0, .int (-1), .int 0, .int 0, .int 0, .int 0, .int 0, .null, .null, .null, .null, .null, .null]))] H := hP
  have hD : va_D A [(h0, .inr (8, [.int 0, .int (-1), .int 0, .int 0, .int 0, .int 0, .int 0, .null, .null, .null, .null, .null, .null]))] := hD
  refine lv_aload_n hx hb dX8_init_9 rfl (lv_at hl 0 rfl) ?_
  refine lv_iconst (v := (-1)) hx hb dX8_init_10 (by decide) ?_
  refine va_put (D := (dC, dI)) (ci := 8) (v := .int (-1)) (C := RX8) (T := TX8) (N := 13) hx hb hts iX8 tyX8 tyX8_ok nmX8 hown hK hP hD hS 0 rfl rfl 2 (by decide) (hts _ tw_227) (fun _ h9 => h9) rfl (tyX8_ok 2 (by decide)) rfl rfl (Nat.le_of_ble_eq_true rfl) dX8_init_11 (fun H locs hP hD hS => ?_)
  have hP : va_P (dC, dI) vwCl [(h0, .inr (8, [.int 0, .int (-1), .int (-1), .int 0, .int 0, .int 0, .int 0, .null, .null, .null, .null, .null, .null]))] H := hP
  have hD : va_D A [(h0, .inr (8, [.int 0, .int (-1), .int (-1), .int 0, .int 0, .int 0, .int 0, .null, .null, .null, .null, .null, .null]))] := hD
  refine lv_aload_n hx hb dX8_init_14 rfl (lv_at hl 0 rfl) ?_
  refine lv_bipush (v := 6) hx hb dX8_init_15 (by decide) ?_
  refine va_newa (D := (dC, dI)) (a0 := (6, .inl (fun _ => 0))) (N' := 6) (ty := .int) (atype := .int) hx hb (hts _ tw_154) rfl hK hP hD hS hA (fun _ => rfl) (by decide) (by decide) (Nat.le_of_ble_eq_true rfl) (Nat.le_of_ble_eq_true rfl) (Nat.le_of_ble_eq_true rfl) dX8_init_17 (fun q_1 k_2 H hK hP hD hS => ?_)
  have hK : va_K (dC, dI) vwCl [(k_2, .int)] s := hK
  have hP : va_P (dC, dI) vwCl [(h0, .inr (8, [.int 0, .int (-1), .int (-1), .int 0, .int 0, .int 0, .int 0, .null, .null, .null, .null, .null, .null])), (q_1, .inl (k_2, 6, .inl (fun _ => 0)))] H := hP
  have hD : va_D A [(h0, .inr (8, [.int 0, .int (-1), .int (-1), .int 0, .int 0, .int 0, .int 0, .null, .null, .null, .null, .null, .null])), (q_1, .inl (k_2, 6, .inl (fun _ => 0)))] := hD
  refine va_putF (D := (dC, dI)) (ci := 8) (v := .ref q_1) (C := RX8) (T := TX8) (N := 13) hx hb hts iX8 tyX8 tyX8_ok nmX8 hown hK hP hD hS 0 rfl rfl 7 (by decide) (hts _ tw_238) (fun _ h9 => h9) rfl hin rfl (tyX8_ok 7 (by decide)) rfl rfl (Nat.le_of_ble_eq_true rfl) dX8_init_19 (fun H locs hP hD hS => ?_)
  have hP : va_P (dC, dI) vwCl [(h0, .inr (8, [.int 0, .int (-1), .int (-1), .int 0, .int 0, .int 0, .int 0, .ref q_1, .null, .null, .null, .null, .null])), (q_1, .inl (k_2, 6, .inl (fun _ => 0)))] H := hP
  have hD : va_D A [(h0, .inr (8, [.int 0, .int (-1), .int (-1), .int 0, .int 0, .int 0, .int 0, .ref q_1, .null, .null, .null, .null, .null])), (q_1, .inl (k_2, 6, .inl (fun _ => 0)))] := hD
  refine lv_aload_n hx hb dX8_init_22 rfl (lv_at hl 0 rfl) ?_
  refine lv_bipush (v := 6) hx hb dX8_init_23 (by decide) ?_
  refine va_newa (D := (dC, dI)) (a0 := (6, .inl (fun _ => 0))) (N' := 6) (ty := .int) (atype := .int) hx hb (hts _ tw_154) rfl hK hP hD hS hA (fun _ => rfl) (by decide) (by decide) (Nat.le_of_ble_eq_true rfl) (Nat.le_of_ble_eq_true rfl) (Nat.le_of_ble_eq_true rfl) dX8_init_25 (fun q_3 k_4 H hK hP hD hS => ?_)
  have hK : va_K (dC, dI) vwCl [(k_2, .int), (k_4, .int)] s := hK
  have hP : va_P (dC, dI) vwCl [(h0, .inr (8, [.int 0, .int (-1), .int (-1), .int 0, .int 0, .int 0, .int 0, .ref q_1, .null, .null, .null, .null, .null])), (q_1, .inl (k_2, 6, .inl (fun _ => 0))), (q_3, .inl (k_4, 6, .inl (fun _ => 0)))] H := hP
  have hD : va_D A [(h0, .inr (8, [.int 0, .int (-1), .int (-1), .int 0, .int 0, .int 0, .int 0, .ref q_1, .null, .null, .null, .null, .null])), (q_1, .inl (k_2, 6, .inl (fun _ => 0))), (q_3, .inl (k_4, 6, .inl (fun _ => 0)))] := hD
  refine va_putF (D := (dC, dI)) (ci := 8) (v := .ref q_3) (C := RX8) (T := TX8) (N := 13) hx hb hts iX8 tyX8 tyX8_ok nmX8 hown hK hP hD hS 0 rfl rfl 8 (by decide) (hts _ tw_242) (fun _ h9 => h9) rfl hin rfl (tyX8_ok 8 (by decide)) rfl rfl (Nat.le_of_ble_eq_true rfl) dX8_init_27 (fun H locs hP hD hS => ?_)
  have hP : va_P (dC, dI) vwCl [(h0, .inr (8, [.int 0, .int (-1), .int (-1), .int 0, .int 0, .int 0, .int 0, .ref q_1, .ref q_3, .null, .null, .null, .null])), (q_1, .inl (k_2, 6, .inl (fun _ => 0))), (q_3, .inl (k_4, 6, .inl (fun _ => 0)))] H := hP
  have hD : va_D A [(h0, .inr (8, [.int 0, .int (-1), .int (-1), .int 0, .int 0, .int 0, .int 0, .ref q_1, .ref q_3, .null, .null, .null, .null])), (q_1, .inl (k_2, 6, .inl (fun _ => 0))), (q_3, .inl (k_4, 6, .inl (fun _ => 0)))] := hD
  refine lv_aload_n hx hb dX8_init_30 rfl (lv_at hl 0 rfl) ?_
  refine lv_bipush (v := 6) hx hb dX8_init_31 (by decide) ?_
  refine va_newa (D := (dC, dI)) (a0 := (6, .inl (fun _ => 0))) (N' := 6) (ty := .int) (atype := .int) hx hb (hts _ tw_154) rfl hK hP hD hS hA (fun _ => rfl) (by decide) (by decide) (Nat.le_of_ble_eq_true rfl) (Nat.le_of_ble_eq_true rfl) (Nat.le_of_ble_eq_true rfl) dX8_init_33 (fun q_5 k_6 H hK hP hD hS => ?_)
  have hK : va_K (dC, dI) vwCl [(k_2, .int), (k_4, .int), (k_6, .int)] s := hK
  have hP : va_P (dC, dI) vwCl [(h0, .inr (8, [.int 0, .int (-1), .int (-1), .int 0, .int 0, .int 0, .int 0, .ref q_1, .ref q_3, .null, .null, .null, .null])), (q_1, .inl (k_2, 6, .inl (fun _ => 0))), (q_3, .inl (k_4, 6, .inl (fun _ => 0))), (q_5, .inl (k_6, 6, .inl (fun _ => 0)))] H := hP
  have hD : va_D A [(h0, .inr (8, [.int 0, .int (-1), .int (-1), .int 0, .int 0, .int 0, .int 0, .ref q_1, .ref q_3, .null, .null, .null, .null])), (q_1, .inl (k_2, 6, .inl (fun _ => 0))), (q_3, .inl (k_4, 6, .inl (fun _ => 0))), (q_5, .inl (k_6, 6, .inl (fun _ => 0)))] := hD
  refine va_putF (D := (dC, dI)) (ci := 8) (v := .ref q_5) (C := RX8) (T := TX8) (N := 13) hx hb hts iX8 tyX8 tyX8_ok nmX8 hown hK hP hD hS 0 rfl rfl 9 (by decide) (hts _ tw_245) (fun _ h9 => h9) rfl hin rfl (tyX8_ok 9 (by decide)) rfl rfl (Nat.le_of_ble_eq_true rfl) dX8_init_35 (fun H locs hP hD hS => ?_)
  have hP : va_P (dC, dI) vwCl [(h0, .inr (8, [.int 0, .int (-1), .int (-1), .int 0, .int 0, .int 0, .int 0, .ref q_1, .ref q_3, .ref q_5, .null, .null, .null])), (q_1, .inl (k_2, 6, .inl (fun _ => 0))), (q_3, .inl (k_4, 6, .inl (fun _ => 0))), (q_5, .inl (k_6, 6, .inl (fun _ => 0)))] H := hP
  have hD : va_D A [(h0, .inr (8, [.int 0, .int (-1), .int (-1), .int 0, .int 0, .int 0, .int 0, .ref q_1, .ref q_3, .ref q_5, .null, .null, .null])), (q_1, .inl (k_2, 6, .inl (fun _ => 0))), (q_3, .inl (k_4, 6, .inl (fun _ => 0))), (q_5, .inl (k_6, 6, .inl (fun _ => 0)))] := hD
  refine lv_aload_n hx hb dX8_init_38 rfl (lv_at hl 0 rfl) ?_
  refine lv_iconst (v := 4) hx hb dX8_init_39 (by decide) ?_
  refine va_newa (D := (dC, dI)) (a0 := (4, .inl (fun _ => 0))) (N' := 4) (ty := .int) (atype := .int) hx hb (hts _ tw_154) rfl hK hP hD hS hA (fun _ => rfl) (by decide) (by decide) (Nat.le_of_ble_eq_true rfl) (Nat.le_of_ble_eq_true rfl) (Nat.le_of_ble_eq_true rfl) dX8_init_40 (fun q_7 k_8 H hK hP hD hS => ?_)
  have hK : va_K (dC, dI) vwCl [(k_2, .int), (k_4, .int), (k_6, .int), (k_8, .int)] s := hK
  have hP : va_P (dC, dI) vwCl [(h0, .inr (8, [.int 0, .int (-1), .int (-1), .int 0, .int 0, .int 0, .int 0, .ref q_1, .ref q_3, .ref q_5, .null, .null, .null])), (q_1, .inl (k_2, 6, .inl (fun _ => 0))), (q_3, .inl (k_4, 6, .inl (fun _ => 0))), (q_5, .inl (k_6, 6, .inl (fun _ => 0))), (q_7, .inl (k_8, 4, .inl (fun _ => 0)))] H := hP
  have hD : va_D A [(h0, .inr (8, [.int 0, .int (-1), .int (-1), .int 0, .int 0, .int 0, .int 0, .ref q_1, .ref q_3, .ref q_5, .null, .null, .null])), (q_1, .inl (k_2, 6, .inl (fun _ => 0))), (q_3, .inl (k_4, 6, .inl (fun _ => 0))), (q_5, .inl (k_6, 6, .inl (fun _ => 0))), (q_7, .inl (k_8, 4, .inl (fun _ => 0)))] := hD
  refine va_putF (D := (dC, dI)) (ci := 8) (v := .ref q_7) (C := RX8) (T := TX8) (N := 13) hx hb hts iX8 tyX8 tyX8_ok nmX8 hown hK hP hD hS 0 rfl rfl 10 (by decide) (hts _ tw_248) (fun _ h9 => h9) rfl hin rfl (tyX8_ok 10 (by decide)) rfl rfl (Nat.le_of_ble_eq_true rfl) dX8_init_42 (fun H locs hP hD hS => ?_)
  have hP : va_P (dC, dI) vwCl [(h0, .inr (8, [.int 0, .int (-1), .int (-1), .int 0, .int 0, .int 0, .int 0, .ref q_1, .ref q_3, .ref q_5, .ref q_7, .null, .null])), (q_1, .inl (k_2, 6, .inl (fun _ => 0))), (q_3, .inl (k_4, 6, .inl (fun _ => 0))), (q_5, .inl (k_6, 6, .inl (fun _ => 0))), (q_7, .inl (k_8, 4, .inl (fun _ => 0)))] H := hP
  have hD : va_D A [(h0, .inr (8, [.int 0, .int (-1), .int (-1), .int 0, .int 0, .int 0, .int 0, .ref q_1, .ref q_3, .ref q_5, .ref q_7, .null, .null])), (q_1, .inl (k_2, 6, .inl (fun _ => 0))), (q_3, .inl (k_4, 6, .inl (fun _ => 0))), (q_5, .inl (k_6, 6, .inl (fun _ => 0))), (q_7, .inl (k_8, 4, .inl (fun _ => 0)))] := hD
  refine lv_aload_n hx hb dX8_init_45 rfl (lv_at hl 0 rfl) ?_
  refine lv_iconst (v := 4) hx hb dX8_init_46 (by decide) ?_
  refine va_newa (D := (dC, dI)) (a0 := (4, .inl (fun _ => 0))) (N' := 4) (ty := .int) (atype := .int) hx hb (hts _ tw_154) rfl hK hP hD hS hA (fun _ => rfl) (by decide) (by decide) (Nat.le_of_ble_eq_true rfl) (Nat.le_of_ble_eq_true rfl) (Nat.le_of_ble_eq_true rfl) dX8_init_47 (fun q_9 k_10 H hK hP hD hS => ?_)
  have hK : va_K (dC, dI) vwCl [(k_2, .int), (k_4, .int), (k_6, .int), (k_8, .int), (k_10, .int)] s := hK
  have hP : va_P (dC, dI) vwCl [(h0, .inr (8, [.int 0, .int (-1), .int (-1), .int 0, .int 0, .int 0, .int 0, .ref q_1, .ref q_3, .ref q_5, .ref q_7, .null, .null])), (q_1, .inl (k_2, 6, .inl (fun _ => 0))), (q_3, .inl (k_4, 6, .inl (fun _ => 0))), (q_5, .inl (k_6, 6, .inl (fun _ => 0))), (q_7, .inl (k_8, 4, .inl (fun _ => 0))), (q_9, .inl (k_10, 4, .inl (fun _ => 0)))] H := hP
  have hD : va_D A [(h0, .inr (8, [.int 0, .int (-1), .int (-1), .int 0, .int 0, .int 0, .int 0, .ref q_1, .ref q_3, .ref q_5, .ref q_7, .null, .null])), (q_1, .inl (k_2, 6, .inl (fun _ => 0))), (q_3, .inl (k_4, 6, .inl (fun _ => 0))), (q_5, .inl (k_6, 6, .inl (fun _ => 0))), (q_7, .inl (k_8, 4, .inl (fun _ => 0))), (q_9, .inl (k_10, 4, .inl (fun _ => 0)))] := hD
  refine va_putF (D := (dC, dI)) (ci := 8) (v := .ref q_9) (C := RX8) (T := TX8) (N := 13) hx hb hts iX8 tyX8 tyX8_ok nmX8 hown hK hP hD hS 0 rfl rfl 11 (by decide) (hts _ tw_250) (fun _ h9 => h9) rfl hin rfl (tyX8_ok 11 (by decide)) rfl rfl (Nat.le_of_ble_eq_true rfl) dX8_init_49 (fun H locs hP hD hS => ?_)
  have hP : va_P (dC, dI) vwCl [(h0, .inr (8, [.int 0, .int (-1), .int (-1), .int 0, .int 0, .int 0, .int 0, .ref q_1, .ref q_3, .ref q_5, .ref q_7, .ref q_9, .null])), (q_1, .inl (k_2, 6, .inl (fun _ => 0))), (q_3, .inl (k_4, 6, .inl (fun _ => 0))), (q_5, .inl (k_6, 6, .inl (fun _ => 0))), (q_7, .inl (k_8, 4, .inl (fun _ => 0))), (q_9, .inl (k_10, 4, .inl (fun _ => 0)))] H := hP
  have hD : va_D A [(h0, .inr (8, [.int 0, .int (-1), .int (-1), .int 0, .int 0, .int 0, .int 0, .ref q_1, .ref q_3, .ref q_5, .ref q_7, .ref q_9, .null])), (q_1, .inl (k_2, 6, .inl (fun _ => 0))), (q_3, .inl (k_4, 6, .inl (fun _ => 0))), (q_5, .inl (k_6, 6, .inl (fun _ => 0))), (q_7, .inl (k_8, 4, .inl (fun _ => 0))), (q_9, .inl (k_10, 4, .inl (fun _ => 0)))] := hD
  refine lv_aload_n hx hb dX8_init_52 rfl (lv_at hl 0 rfl) ?_
  refine lv_bipush (v := 6) hx hb dX8_init_53 (by decide) ?_
  refine va_newa (D := (dC, dI)) (a0 := (6, .inl (fun _ => 0))) (N' := 6) (ty := .int) (atype := .int) hx hb (hts _ tw_154) rfl hK hP hD hS hA (fun _ => rfl) (by decide) (by decide) (Nat.le_of_ble_eq_true rfl) (Nat.le_of_ble_eq_true rfl) (Nat.le_of_ble_eq_true rfl) dX8_init_55 (fun q_11 k_12 H hK hP hD hS => ?_)
  have hK : va_K (dC, dI) vwCl [(k_2, .int), (k_4, .int), (k_6, .int), (k_8, .int), (k_10, .int), (k_12, .int)] s := hK
  have hP : va_P (dC, dI) vwCl [(h0, .inr (8, [.int 0, .int (-1), .int (-1), .int 0, .int 0, .int 0, .int 0, .ref q_1, .ref q_3, .ref q_5, .ref q_7, .ref q_9, .null])), (q_1, .inl (k_2, 6, .inl (fun _ => 0))), (q_3, .inl (k_4, 6, .inl (fun _ => 0))), (q_5, .inl (k_6, 6, .inl (fun _ => 0))), (q_7, .inl (k_8, 4, .inl (fun _ => 0))), (q_9, .inl (k_10, 4, .inl (fun _ => 0))), (q_11, .inl (k_12, 6, .inl (fun _ => 0)))] H := hP
  have hD : va_D A [(h0, .inr (8, [.int 0, .int (-1), .int (-1), .int 0, .int 0, .int 0, .int 0, .ref q_1, .ref q_3, .ref q_5, .ref q_7, .ref q_9, .null])), (q_1, .inl (k_2, 6, .inl (fun _ => 0))), (q_3, .inl (k_4, 6, .inl (fun _ => 0))), (q_5, .inl (k_6, 6, .inl (fun _ => 0))), (q_7, .inl (k_8, 4, .inl (fun _ => 0))), (q_9, .inl (k_10, 4, .inl (fun _ => 0))), (q_11, .inl (k_12, 6, .inl (fun _ => 0)))] := hD
  refine va_putF (D := (dC, dI)) (ci := 8) (v := .ref q_11) (C := RX8) (T := TX8) (N := 13) hx hb hts iX8 tyX8 tyX8_ok nmX8 hown hK hP hD hS 0 rfl rfl 12 (by decide) (hts _ tw_252) (fun _ h9 => h9) rfl hin rfl (tyX8_ok 12 (by decide)) rfl rfl (Nat.le_of_ble_eq_true rfl) dX8_init_57 (fun H locs hP hD hS => ?_)
  have hP : va_P (dC, dI) vwCl [(h0, .inr (8, [.int 0, .int (-1), .int (-1), .int 0, .int 0, .int 0, .int 0, .ref q_1, .ref q_3, .ref q_5, .ref q_7, .ref q_9, .ref q_11])), (q_1, .inl (k_2, 6, .inl (fun _ => 0))), (q_3, .inl (k_4, 6, .inl (fun _ => 0))), (q_5, .inl (k_6, 6, .inl (fun _ => 0))), (q_7, .inl (k_8, 4, .inl (fun _ => 0))), (q_9, .inl (k_10, 4, .inl (fun _ => 0))), (q_11, .inl (k_12, 6, .inl (fun _ => 0)))] H := hP
  have hD : va_D A [(h0, .inr (8, [.int 0, .int (-1), .int (-1), .int 0, .int 0, .int 0, .int 0, .ref q_1, .ref q_3, .ref q_5, .ref q_7, .ref q_9, .ref q_11])), (q_1, .inl (k_2, 6, .inl (fun _ => 0))), (q_3, .inl (k_4, 6, .inl (fun _ => 0))), (q_5, .inl (k_6, 6, .inl (fun _ => 0))), (q_7, .inl (k_8, 4, .inl (fun _ => 0))), (q_9, .inl (k_10, 4, .inl (fun _ => 0))), (q_11, .inl (k_12, 6, .inl (fun _ => 0)))] := hD
  have hP9 := hP.sub (ws' := [(h0, .inr (8, [.int 0, .int (-1), .int (-1), .int 0, .int 0, .int 0, .int 0, .ref q_1, .ref q_3, .ref q_5, .ref q_7, .ref q_9, .ref q_11])), (q_1, .inl (k_2, 6, .inl (fun _ => 0))), (q_3, .inl (k_4, 6, .inl (fun _ => 0))), (q_5, .inl (k_6, 6, .inl (fun _ => 0))), (q_7, .inl (k_8, 4, .inl (fun _ => 0))), (q_9, .inl (k_10, 4, .inl (fun _ => 0))), (q_11, .inl (k_12, 6, .inl (fun _ => 0)))]) [0, 1, 2, 3, 4, 5, 6] rfl
  have hD9 := hD.sub (ws' := [(h0, .inr (8, [.int 0, .int (-1), .int (-1), .int 0, .int 0, .int 0, .int 0, .ref q_1, .ref q_3, .ref q_5, .ref q_7, .ref q_9, .ref q_11])), (q_1, .inl (k_2, 6, .inl (fun _ => 0))), (q_3, .inl (k_4, 6, .inl (fun _ => 0))), (q_5, .inl (k_6, 6, .inl (fun _ => 0))), (q_7, .inl (k_8, 4, .inl (fun _ => 0))), (q_9, .inl (k_10, 4, .inl (fun _ => 0))), (q_11, .inl (k_12, 6, .inl (fun _ => 0)))]) [0, 1, 2, 3, 4, 5, 6] (by decide) rfl
  have hK9 := hK.sub (tys' := [(k_2, .int), (k_4, .int), (k_6, .int), (k_8, .int), (k_10, .int), (k_12, .int)]) [0, 1, 2, 3, 4, 5] rfl
  refine W.widen (k := 6) (n := 32) (Nat.le_of_ble_eq_true rfl) (Nat.le_of_ble_eq_true rfl) ?_
  exact W.vret hx hb hr (fun t ht hW => ⟨⟨(), rfl, trivial, ⟨q_1, k_2, q_3, k_4, q_5, k_6, q_7, k_8, q_9, k_10, q_11, k_12, by rw [ht]; exact hP9, va_K.moved hW.alike hK9, hD9⟩⟩, hS.F ht⟩) hS.2.2 dX8_init_60
set_option maxHeartbeats 4000000 in
set_option maxRecDepth 100000 in
/-- Whole(choir) -/
theorem c_Whole_init (l : Launch) (dC : Nat → ClassId) (dI : Nat → Nat → Nat) (h0 : Nat) (ch : Nat) (sz : Nat) : Met l yX10_init (ws_u yX10_init cX10_init 2 none) ({ frames := 2, cells := 9, slots := 65, locals := 48 }) (va_Pc [.ref h0, .ref ch] (cPre (dC, dI) [] [(h0, .inr (10, [.null, .null, .int 0, .int 0, .int 0, .null, .null, .int 0]))] sz)) (va_Qv (fun _ : Unit => True) (fun _ t => ∃ (ws : Nat) (ws0 : Nat) (ws1 : Nat) (ws2 : Nat) (ws3 : Nat) (ws4 : Nat) (ws5 : Nat) (wsk0 : ClassId) (wsk1 : ClassId) (wsk2 : ClassId) (wsk3 : ClassId) (wsk4 : ClassId) (wsk5 : ClassId) (wd : Nat) (wb : Nat) (wdk : ClassId) (wbk : ClassId), cPost (dC, dI) [(wsk0, .int), (wsk1, .int), (wsk2, .int), (wsk3, .int), (wsk4, .int), (wsk5, .int), (wdk, .int), (wbk, .int)] [(h0, .inr (10, [.ref ch, .ref ws, .int (-1), .int 0, .int 0, .ref wd, .ref wb, .int 0])), (ws, .inr (8, [.int 0, .int (-1), .int (-1), .int 0, .int 0, .int 0, .int 0, .ref ws0, .ref ws1, .ref ws2, .ref ws3, .ref ws4, .ref ws5])), (ws0, .inl (wsk0, 6, .inl (fun _ => 0))), (ws1, .inl (wsk1, 6, .inl (fun _ => 0))), (ws2, .inl (wsk2, 6, .inl (fun _ => 0))), (ws3, .inl (wsk3, 4, .inl (fun _ => 0))), (ws4, .inl (wsk4, 4, .inl (fun _ => 0))), (ws5, .inl (wsk5, 6, .inl (fun _ => 0))), (wd, .inl (wdk, 10, .inl (fun _ => 0))), (wb, .inl (wbk, 10, .inl (fun _ => 0)))] (va_A [(h0, .inr (10, [.null, .null, .int 0, .int 0, .int 0, .null, .null, .int 0]))] sz) t) (va_A [(h0, .inr (10, [.null, .null, .int 0, .int 0, .int 0, .null, .null, .int 0]))] sz)) 9 65 (va_A [(h0, .inr (10, [.null, .null, .int 0, .int 0, .int 0, .null, .null, .int 0]))] sz) := by
  refine Met.ofW (cc := cX10_init) (maxL := 2) (ret := none) (by decide) rfl ?_
  intro p e s m args below meth c s₁ B hml hv
  obtain ⟨rfl, hsz, hP, hK, hD0, hE⟩ := hv
  have hx := B.exec
  have hb := B.bytes
  have hr := B.returns
  have hts0 := atoms_spec (ws := ws_u yX10_init cX10_init 2 none) B.pre
  have hts : ∀ w ∈ gT, w.before _ s = true := fun w h => hts0 w (List.mem_cons_of_mem _ h)
  have hown : s.vm.findClass RX10 = some m.cls := findClass_of_methodNamed B.named
  have hlocks := B.notSynchronized
  have hin : meth.name = "<init>" := (name_of_methodNamed B.named B.method).1
  subst hsz
  have hD := hD0.self (sz := s.heap.size)
  generalize hAe : va_A [(h0, .inr (10, [.null, .null, .int 0, .int 0, .int 0, .null, .null, .int 0]))] s.heap.size = A at hD ⊢
  have hA : ∀ q : Nat, s.heap.size ≤ q → A q := fun q h => by rw [← hAe]; exact Or.inr h
  have hS : va_S A s.heap s.heap [] := va_S.rf
  have hl := lv_entry ([.ref h0, .ref ch]) (n := 2) (Nat.le_of_ble_eq_true rfl)
  rw [lg_entry_eq]
  generalize (lg_sl ([.ref h0, .ref ch]) ++ List.replicate (2 - (lg_sl ([.ref h0, .ref ch])).length) Slot.unset).toArray = ls at hl ⊢
  have hl : lv_has ls 2 [(0, .ref h0), (1, .ref ch)] := hl
  have hP : va_P (dC, dI) vwCl [(h0, .inr (10, [.null, .null, .int 0, .int 0, .int 0, .null, .null, .int 0]))] s.heap := hP
  try clear hAe
  refine lv_aload_n hx hb dX10_init_0 rfl (lv_at hl 0 rfl) ?_
  refine W.objInit hx hb hown (hts _ tw_213) (hts _ tw_28) (hts _ tw_29) rfl (by rw [hml]; exact hl.1) rfl dX10_init_1 (Nat.le_of_ble_eq_true rfl) (Nat.le_of_ble_eq_true rfl) ?_
  refine W.eq (g2 := F0 m 4 ls []) rfl ?_
  refine lv_aload_n hx hb dX10_init_4 rfl (lv_at hl 0 rfl) ?_
  refine lv_aload_n hx hb dX10_init_5 rfl (lv_at hl 1 rfl) ?_
  refine va_put (D := (dC, dI)) (ci := 10) (v := .ref ch) (C := RX10) (T := TX10) (N := 8) hx hb hts iX10 tyX10 tyX10_ok nmX10 hown hK hP hD hS 0 rfl rfl 0 (by decide) (hts _ tw_281) (fun _ h9 => h9) rfl (tyX10_ok 0 (by decide)) rfl rfl (Nat.le_of_ble_eq_true rfl) dX10_init_6 (fun H locs hP hD hS => ?_)
  have hP : va_P (dC, dI) vwCl [(h0, .inr (10, [.ref ch, .null, .int 0, .int 0, .int 0, .null, .null, .int 0]))] H := hP
  have hD : va_D A [(h0, .inr (10, [.ref ch, .null, .int 0, .int 0, .int 0, .null, .null, .int 0]))] := hD
  refine lv_aload_n hx hb dX10_init_9 rfl (lv_at hl 0 rfl) ?_
  refine va_new (ci := 8) (fs := [.int 0, .int 0, .int 0, .int 0, .int 0, .int 0, .int 0, .null, .null, .null, .null, .null, .null]) (C := RX8) (T := TX8) (N := 13) hx hb hts iX8 tyX8 tyX8_ok hown (hts _ tw_214) (hts _ tw_215) (hts _ tw_8) hK hP hD hS hA rfl (dfX8) (Nat.le_of_ble_eq_true rfl) (Nat.le_of_ble_eq_true rfl) dX10_init_10 (fun q_1 H hP hD hS => ?_)
  have hP : va_P (dC, dI) vwCl [(h0, .inr (10, [.ref ch, .null, .int 0, .int 0, .int 0, .null, .null, .int 0])), (q_1, .inr (8, [.int 0, .int 0, .int 0, .int 0, .int 0, .int 0, .int 0, .null, .null, .null, .null, .null, .null]))] H := hP
  have hD : va_D A [(h0, .inr (10, [.ref ch, .null, .int 0, .int 0, .int 0, .null, .null, .int 0])), (q_1, .inr (8, [.int 0, .int 0, .int 0, .int 0, .int 0, .int 0, .int 0, .null, .null, .null, .null, .null, .null]))] := hD
  refine lv_dup hx hb dX10_init_13 rfl ?_
  have hPc := hP.sub (ws' := [(q_1, .inr (8, [.int 0, .int 0, .int 0, .int 0, .int 0, .int 0, .int 0, .null, .null, .null, .null, .null, .null]))]) [1] rfl
  have hDc := hD.sub (ws' := [(q_1, .inr (8, [.int 0, .int 0, .int 0, .int 0, .int 0, .int 0, .int 0, .null, .null, .null, .null, .null, .null]))]) [1] (by decide) rfl
  have hKc := hK.sub (tys' := []) [] rfl
  have hFc := va_free (wc := [(q_1, .inr (8, [.int 0, .int 0, .int 0, .int 0, .int 0, .int 0, .int 0, .null, .null, .null, .null, .null, .null]))]) hD hS hA [1] rfl
  refine va_callv (va_runI (As := []) (rest := [.ref q_1, .ref h0]) ⟨hx, hb, hml, hown, hts⟩ (c_Standing_init l dC dI q_1  H.size) (cwI 0 hts (gU tw_218) rfl rfl rfl (hts _ tw_8) (hts _ tw_216) (hts _ tw_217) rfl (by decide +kernel) ⟨(Nat.le_of_ble_eq_true rfl), (Nat.le_of_ble_eq_true rfl)⟩) ⟨cPre.blind, cPre.use hPc hKc hDc hE⟩ rfl rfl hl.1 rfl (lv_room (Nat.le_of_ble_eq_true rfl)) dX10_init_14 ⟨(Nat.le_of_ble_eq_true rfl), (Nat.le_of_ble_eq_true rfl)⟩) hS (fun q _ h => hFc q h) hFc (fun u t H1 locs ht hvm hw hB hz1 hk1 hS => ?_)
  obtain ⟨q0_3, k0_4, q1_5, k1_6, q2_7, k2_8, q3_9, k3_10, q4_11, k4_12, q5_13, k5_14, hP1, hK1, hD1⟩ := hB
  rw [ht] at hP1
  obtain ⟨hP, hD⟩ := va_join (wr := [(h0, .inr (10, [.ref ch, .null, .int 0, .int 0, .int 0, .null, .null, .int 0]))]) (w1 := [(q_1, .inr (8, [.int 0, .int (-1), .int (-1), .int 0, .int 0, .int 0, .int 0, .ref q0_3, .ref q1_5, .ref q2_7, .ref q3_9, .ref q4_11, .ref q5_13])), (q0_3, .inl (k0_4, 6, .inl (fun _ => 0))), (q1_5, .inl (k1_6, 6, .inl (fun _ => 0))), (q2_7, .inl (k2_8, 6, .inl (fun _ => 0))), (q3_9, .inl (k3_10, 4, .inl (fun _ => 0))), (q4_11, .inl (k4_12, 4, .inl (fun _ => 0))), (q5_13, .inl (k5_14, 6, .inl (fun _ => 0)))]) hP hD [1] [0] rfl rfl (by decide) (by decide) hk1 hFc hP1 hD1
  have hK1 := va_K.moved hvm.symm hK1
  have hK := hK.app (hK1.sub (tys' := [(k0_4, .int), (k1_6, .int), (k2_8, .int), (k3_10, .int), (k4_12, .int), (k5_14, .int)]) [0, 1, 2, 3, 4, 5] rfl)
  have hK : va_K (dC, dI) vwCl [(k0_4, .int), (k1_6, .int), (k2_8, .int), (k3_10, .int), (k4_12, .int), (k5_14, .int)] s := hK
  generalize H1 = H at hP hS ⊢
  have hP : va_P (dC, dI) vwCl [(h0, .inr (10, [.ref ch, .null, .int 0, .int 0, .int 0, .null, .null, .int 0])), (q_1, .inr (8, [.int 0, .int (-1), .int (-1), .int 0, .int 0, .int 0, .int 0, .ref q0_3, .ref q1_5, .ref q2_7, .ref q3_9, .ref q4_11, .ref q5_13])), (q0_3, .inl (k0_4, 6, .inl (fun _ => 0))), (q1_5, .inl (k1_6, 6, .inl (fun _ => 0))), (q2_7, .inl (k2_8, 6, .inl (fun _ => 0))), (q3_9, .inl (k3_10, 4, .inl (fun _ => 0))), (q4_11, .inl (k4_12, 4, .inl (fun _ => 0))), (q5_13, .inl (k5_14, 6, .inl (fun _ => 0)))] H := hP
  have hD : va_D A [(h0, .inr (10, [.ref ch, .null, .int 0, .int 0, .int 0, .null, .null, .int 0])), (q_1, .inr (8, [.int 0, .int (-1), .int (-1), .int 0, .int 0, .int 0, .int 0, .ref q0_3, .ref q1_5, .ref q2_7, .ref q3_9, .ref q4_11, .ref q5_13])), (q0_3, .inl (k0_4, 6, .inl (fun _ => 0))), (q1_5, .inl (k1_6, 6, .inl (fun _ => 0))), (q2_7, .inl (k2_8, 6, .inl (fun _ => 0))), (q3_9, .inl (k3_10, 4, .inl (fun _ => 0))), (q4_11, .inl (k4_12, 4, .inl (fun _ => 0))), (q5_13, .inl (k5_14, 6, .inl (fun _ => 0)))] := hD
  refine va_putF (D := (dC, dI)) (ci := 10) (v := .ref q_1) (C := RX10) (T := TX10) (N := 8) hx hb hts iX10 tyX10 tyX10_ok nmX10 hown hK hP hD hS 0 rfl rfl 1 (by decide) (hts _ tw_284) (fun _ h9 => h9) rfl hin rfl (tyX10_ok 1 (by decide)) rfl rfl (Nat.le_of_ble_eq_true rfl) dX10_init_17 (fun H locs hP hD hS => ?_)
  have hP : va_P (dC, dI) vwCl [(h0, .inr (10, [.ref ch, .ref q_1, .int 0, .int 0, .int 0, .null, .null, .int 0])), (q_1, .inr (8, [.int 0, .int (-1), .int (-1), .int 0, .int 0, .int 0, .int 0, .ref q0_3, .ref q1_5, .ref q2_7, .ref q3_9, .ref q4_11, .ref q5_13])), (q0_3, .inl (k0_4, 6, .inl (fun _ => 0))), (q1_5, .inl (k1_6, 6, .inl (fun _ => 0))), (q2_7, .inl (k2_8, 6, .inl (fun _ => 0))), (q3_9, .inl (k3_10, 4, .inl (fun _ => 0))), (q4_11, .inl (k4_12, 4, .inl (fun _ => 0))), (q5_13, .inl (k5_14, 6, .inl (fun _ => 0)))] H := hP
  have hD : va_D A [(h0, .inr (10, [.ref ch, .ref q_1, .int 0, .int 0, .int 0, .null, .null, .int 0])), (q_1, .inr (8, [.int 0, .int (-1), .int (-1), .int 0, .int 0, .int 0, .int 0, .ref q0_3, .ref q1_5, .ref q2_7, .ref q3_9, .ref q4_11, .ref q5_13])), (q0_3, .inl (k0_4, 6, .inl (fun _ => 0))), (q1_5, .inl (k1_6, 6, .inl (fun _ => 0))), (q2_7, .inl (k2_8, 6, .inl (fun _ => 0))), (q3_9, .inl (k3_10, 4, .inl (fun _ => 0))), (q4_11, .inl (k4_12, 4, .inl (fun _ => 0))), (q5_13, .inl (k5_14, 6, .inl (fun _ => 0)))] := hD
  refine lv_aload_n hx hb dX10_init_20 rfl (lv_at hl 0 rfl) ?_
  refine lv_iconst (v := (-1)) hx hb dX10_init_21 (by decide) ?_
  refine va_put (D := (dC, dI)) (ci := 10) (v := .int (-1)) (C := RX10) (T := TX10) (N := 8) hx hb hts iX10 tyX10 tyX10_ok nmX10 hown hK hP hD hS 0 rfl rfl 2 (by decide) (hts _ tw_286) (fun _ h9 => h9) rfl (tyX10_ok 2 (by decide)) rfl rfl (Nat.le_of_ble_eq_true rfl) dX10_init_22 (fun H locs hP hD hS => ?_)
  have hP : va_P (dC, dI) vwCl [(h0, .inr (10, [.ref ch, .ref q_1, .int (-1), .int 0, .int 0, .null, .null, .int 0])), (q_1, .inr (8, [.int 0, .int (-1), .int (-1), .int 0, .int 0, .int 0, .int 0, .ref q0_3, .ref q1_5, .ref q2_7, .ref q3_9, .ref q4_11, .ref q5_13])), (q0_3, .inl (k0_4, 6, .inl (fun _ => 0))), (q1_5, .inl (k1_6, 6, .inl (fun _ => 0))), (q2_7, .inl (k2_8, 6, .inl (fun _ => 0))), (q3_9, .inl (k3_10, 4, .inl (fun _ => 0))), (q4_11, .inl (k4_12, 4, .inl (fun _ => 0))), (q5_13, .inl (k5_14, 6, .inl (fun _ => 0)))] H := hP
  have hD : va_D A [(h0, .inr (10, [.ref ch, .ref q_1, .int (-1), .int 0, .int 0, .null, .null, .int 0])), (q_1, .inr (8, [.int 0, .int (-1), .int (-1), .int 0, .int 0, .int 0, .int 0, .ref q0_3, .ref q1_5, .ref q2_7, .ref q3_9, .ref q4_11, .ref q5_13])), (q0_3, .inl (k0_4, 6, .inl (fun _ => 0))), (q1_5, .inl (k1_6, 6, .inl (fun _ => 0))), (q2_7, .inl (k2_8, 6, .inl (fun _ => 0))), (q3_9, .inl (k3_10, 4, .inl (fun _ => 0))), (q4_11, .inl (k4_12, 4, .inl (fun _ => 0))), (q5_13, .inl (k5_14, 6, .inl (fun _ => 0)))] := hD
  refine lv_aload_n hx hb dX10_init_25 rfl (lv_at hl 0 rfl) ?_
  refine lv_bipush (v := 10) hx hb dX10_init_26 (by decide) ?_
  refine va_newa (D := (dC, dI)) (a0 := (10, .inl (fun _ => 0))) (N' := 10) (ty := .int) (atype := .int) hx hb (hts _ tw_154) rfl hK hP hD hS hA (fun _ => rfl) (by decide) (by decide) (Nat.le_of_ble_eq_true rfl) (Nat.le_of_ble_eq_true rfl) (Nat.le_of_ble_eq_true rfl) dX10_init_28 (fun q_15 k_16 H hK hP hD hS => ?_)
  have hK : va_K (dC, dI) vwCl [(k0_4, .int), (k1_6, .int), (k2_8, .int), (k3_10, .int), (k4_12, .int), (k5_14, .int), (k_16, .int)] s := hK
  have hP : va_P (dC, dI) vwCl [(h0, .inr (10, [.ref ch, .ref q_1, .int (-1), .int 0, .int 0, .null, .null, .int 0])), (q_1, .inr (8, [.int 0, .int (-1), .int (-1), .int 0, .int 0, .int 0, .int 0, .ref q0_3, .ref q1_5, .ref q2_7, .ref q3_9, .ref q4_11, .ref q5_13])), (q0_3, .inl (k0_4, 6, .inl (fun _ => 0))), (q1_5, .inl (k1_6, 6, .inl (fun _ => 0))), (q2_7, .inl (k2_8, 6, .inl (fun _ => 0))), (q3_9, .inl (k3_10, 4, .inl (fun _ => 0))), (q4_11, .inl (k4_12, 4, .inl (fun _ => 0))), (q5_13, .inl (k5_14, 6, .inl (fun _ => 0))), (q_15, .inl (k_16, 10, .inl (fun _ => 0)))] H := hP
  have hD : va_D A [(h0, .inr (10, [.ref ch, .ref q_1, .int (-1), .int 0, .int 0, .null, .null, .int 0])), (q_1, .inr (8, [.int 0, .int (-1), .int (-1), .int 0, .int 0, .int 0, .int 0, .ref q0_3, .ref q1_5, .ref q2_7, .ref q3_9, .ref q4_11, .ref q5_13])), (q0_3, .inl (k0_4, 6, .inl (fun _ => 0))), (q1_5, .inl (k1_6, 6, .inl (fun _ => 0))), (q2_7, .inl (k2_8, 6, .inl (fun _ => 0))), (q3_9, .inl (k3_10, 4, .inl (fun _ => 0))), (q4_11, .inl (k4_12, 4, .inl (fun _ => 0))), (q5_13, .inl (k5_14, 6, .inl (fun _ => 0))), (q_15, .inl (k_16, 10, .inl (fun _ => 0)))] := hD
  refine va_putF (D := (dC, dI)) (ci := 10) (v := .ref q_15) (C := RX10) (T := TX10) (N := 8) hx hb hts iX10 tyX10 tyX10_ok nmX10 hown hK hP hD hS 0 rfl rfl 5 (by decide) (hts _ tw_293) (fun _ h9 => h9) rfl hin rfl (tyX10_ok 5 (by decide)) rfl rfl (Nat.le_of_ble_eq_true rfl) dX10_init_30 (fun H locs hP hD hS => ?_)
  have hP : va_P (dC, dI) vwCl [(h0, .inr (10, [.ref ch, .ref q_1, .int (-1), .int 0, .int 0, .ref q_15, .null, .int 0])), (q_1, .inr (8, [.int 0, .int (-1), .int (-1), .int 0, .int 0, .int 0, .int 0, .ref q0_3, .ref q1_5, .ref q2_7, .ref q3_9, .ref q4_11, .ref q5_13])), (q0_3, .inl (k0_4, 6, .inl (fun _ => 0))), (q1_5, .inl (k1_6, 6, .inl (fun _ => 0))), (q2_7, .inl (k2_8, 6, .inl (fun _ => 0))), (q3_9, .inl (k3_10, 4, .inl (fun _ => 0))), (q4_11, .inl (k4_12, 4, .inl (fun _ => 0))), (q5_13, .inl (k5_14, 6, .inl (fun _ => 0))), (q_15, .inl (k_16, 10, .inl (fun _ => 0)))] H := hP
  have hD : va_D A [(h0, .inr (10, [.ref ch, .ref q_1, .int (-1), .int 0, .int 0, .ref q_15, .null, .int 0])), (q_1, .inr (8, [.int 0, .int (-1), .int (-1), .int 0, .int 0, .int 0, .int 0, .ref q0_3, .ref q1_5, .ref q2_7, .ref q3_9, .ref q4_11, .ref q5_13])), (q0_3, .inl (k0_4, 6, .inl (fun _ => 0))), (q1_5, .inl (k1_6, 6, .inl (fun _ => 0))), (q2_7, .inl (k2_8, 6, .inl (fun _ => 0))), (q3_9, .inl (k3_10, 4, .inl (fun _ => 0))), (q4_11, .inl (k4_12, 4, .inl (fun _ => 0))), (q5_13, .inl (k5_14, 6, .inl (fun _ => 0))), (q_15, .inl (k_16, 10, .inl (fun _ => 0)))] := hD
  refine lv_aload_n hx hb dX10_init_33 rfl (lv_at hl 0 rfl) ?_
  refine lv_bipush (v := 10) hx hb dX10_init_34 (by decide) ?_
  refine va_newa (D := (dC, dI)) (a0 := (10, .inl (fun _ => 0))) (N' := 10) (ty := .int) (atype := .int) hx hb (hts _ tw_154) rfl hK hP hD hS hA (fun _ => rfl) (by decide) (by decide) (Nat.le_of_ble_eq_true rfl) (Nat.le_of_ble_eq_true rfl) (Nat.le_of_ble_eq_true rfl) dX10_init_36 (fun q_17 k_18 H hK hP hD hS => ?_)
  have hK : va_K (dC, dI) vwCl [(k0_4, .int), (k1_6, .int), (k2_8, .int), (k3_10, .int), (k4_12, .int), (k5_14, .int), (k_16, .int), (k_18, .int)] s := hK
  have hP : va_P (dC, dI) vwCl [(h0, .inr (10, [.ref ch, .ref q_1, .int (-1), .int 0, .int 0, .ref q_15, .null, .int 0])), (q_1, .inr (8, [.int 0, .int (-1), .int (-1), .int 0, .int 0, .int 0, .int 0, .ref q0_3, .ref q1_5, .ref q2_7, .ref q3_9, .ref q4_11, .ref q5_13])), (q0_3, .inl (k0_4, 6, .inl (fun _ => 0))), (q1_5, .inl (k1_6, 6, .inl (fun _ => 0))), (q2_7, .inl (k2_8, 6, .inl (fun _ => 0))), (q3_9, .inl (k3_10, 4, .inl (fun _ => 0))), (q4_11, .inl (k4_12, 4, .inl (fun _ => 0))), (q5_13, .inl (k5_14, 6, .inl (fun _ => 0))), (q_15, .inl (k_16, 10, .inl (fun _ => 0))), (q_17, .inl (k_18, 10, .inl (fun _ => 0)))] H := hP
  have hD : va_D A [(h0, .inr (10, [.ref ch, .ref q_1, .int (-1), .int 0, .int 0, .ref q_15, .null, .int 0])), (q_1, .inr (8, [.int 0, .int (-1), .int (-1), .int 0, .int 0, .int 0, .int 0, .ref q0_3, .ref q1_5, .ref q2_7, .ref q3_9, .ref q4_11, .ref q5_13])), (q0_3, .inl (k0_4, 6, .inl (fun _ => 0))), (q1_5, .inl (k1_6, 6, .inl (fun _ => 0))), (q2_7, .inl (k2_8, 6, .inl (fun _ => 0))), (q3_9, .inl (k3_10, 4, .inl (fun _ => 0))), (q4_11, .inl (k4_12, 4, .inl (fun _ => 0))), (q5_13, .inl (k5_14, 6, .inl (fun _ => 0))), (q_15, .inl (k_16, 10, .inl (fun _ => 0))), (q_17, .inl (k_18, 10, .inl (fun _ => 0)))] := hD
  refine va_putF (D := (dC, dI)) (ci := 10) (v := .ref q_17) (C := RX10) (T := TX10) (N := 8) hx hb hts iX10 tyX10 tyX10_ok nmX10 hown hK hP hD hS 0 rfl rfl 6 (by decide) (hts _ tw_296) (fun _ h9 => h9) rfl hin rfl (tyX10_ok 6 (by decide)) rfl rfl (Nat.le_of_ble_eq_true rfl) dX10_init_38 (fun H locs hP hD hS => ?_)
  have hP : va_P (dC, dI) vwCl [(h0, .inr (10, [.ref ch, .ref q_1, .int (-1), .int 0, .int 0, .ref q_15, .ref q_17, .int 0])), (q_1, .inr (8, [.int 0, .int (-1), .int (-1), .int 0, .int 0, .int 0, .int 0, .ref q0_3, .ref q1_5, .ref q2_7, .ref q3_9, .ref q4_11, .ref q5_13])), (q0_3, .inl (k0_4, 6, .inl (fun _ => 0))), (q1_5, .inl (k1_6, 6, .inl (fun _ => 0))), (q2_7, .inl (k2_8, 6, .inl (fun _ => 0))), (q3_9, .inl (k3_10, 4, .inl (fun _ => 0))), (q4_11, .inl (k4_12, 4, .inl (fun _ => 0))), (q5_13, .inl (k5_14, 6, .inl (fun _ => 0))), (q_15, .inl (k_16, 10, .inl (fun _ => 0))), (q_17, .inl (k_18, 10, .inl (fun _ => 0)))] H := hP
  have hD : va_D A [(h0, .inr (10, [.ref ch, .ref q_1, .int (-1), .int 0, .int 0, .ref q_15, .ref q_17, .int 0])), (q_1, .inr (8, [.int 0, .int (-1), .int (-1), .int 0, .int 0, .int 0, .int 0, .ref q0_3, .ref q1_5, .ref q2_7, .ref q3_9, .ref q4_11, .ref q5_13])), (q0_3, .inl (k0_4, 6, .inl (fun _ => 0))), (q1_5, .inl (k1_6, 6, .inl (fun _ => 0))), (q2_7, .inl (k2_8, 6, .inl (fun _ => 0))), (q3_9, .inl (k3_10, 4, .inl (fun _ => 0))), (q4_11, .inl (k4_12, 4, .inl (fun _ => 0))), (q5_13, .inl (k5_14, 6, .inl (fun _ => 0))), (q_15, .inl (k_16, 10, .inl (fun _ => 0))), (q_17, .inl (k_18, 10, .inl (fun _ => 0)))] := hD
  have hP9 := hP.sub (ws' := [(h0, .inr (10, [.ref ch, .ref q_1, .int (-1), .int 0, .int 0, .ref q_15, .ref q_17, .int 0])), (q_1, .inr (8, [.int 0, .int (-1), .int (-1), .int 0, .int 0, .int 0, .int 0, .ref q0_3, .ref q1_5, .ref q2_7, .ref q3_9, .ref q4_11, .ref q5_13])), (q0_3, .inl (k0_4, 6, .inl (fun _ => 0))), (q1_5, .inl (k1_6, 6, .inl (fun _ => 0))), (q2_7, .inl (k2_8, 6, .inl (fun _ => 0))), (q3_9, .inl (k3_10, 4, .inl (fun _ => 0))), (q4_11, .inl (k4_12, 4, .inl (fun _ => 0))), (q5_13, .inl (k5_14, 6, .inl (fun _ => 0))), (q_15, .inl (k_16, 10, .inl (fun _ => 0))), (q_17, .inl (k_18, 10, .inl (fun _ => 0)))]) [0, 1, 2, 3, 4, 5, 6, 7, 8, 9] rfl
  have hD9 := hD.sub (ws' := [(h0, .inr (10, [.ref ch, .ref q_1, .int (-1), .int 0, .int 0, .ref q_15, .ref q_17, .int 0])), (q_1, .inr (8, [.int 0, .int (-1), .int (-1), .int 0, .int 0, .int 0, .int 0, .ref q0_3, .ref q1_5, .ref q2_7, .ref q3_9, .ref q4_11, .ref q5_13])), (q0_3, .inl (k0_4, 6, .inl (fun _ => 0))), (q1_5, .inl (k1_6, 6, .inl (fun _ => 0))), (q2_7, .inl (k2_8, 6, .inl (fun _ => 0))), (q3_9, .inl (k3_10, 4, .inl (fun _ => 0))), (q4_11, .inl (k4_12, 4, .inl (fun _ => 0))), (q5_13, .inl (k5_14, 6, .inl (fun _ => 0))), (q_15, .inl (k_16, 10, .inl (fun _ => 0))), (q_17, .inl (k_18, 10, .inl (fun _ => 0)))]) [0, 1, 2, 3, 4, 5, 6, 7, 8, 9] (by decide) rfl
  have hK9 := hK.sub (tys' := [(k0_4, .int), (k1_6, .int), (k2_8, .int), (k3_10, .int), (k4_12, .int), (k5_14, .int), (k_16, .int), (k_18, .int)]) [0, 1, 2, 3, 4, 5, 6, 7] rfl
  refine W.widen (k := 9) (n := 65) (Nat.le_of_ble_eq_true rfl) (Nat.le_of_ble_eq_true rfl) ?_
  exact W.vret hx hb hr (fun t ht hW => ⟨⟨(), rfl, trivial, ⟨q_1, q0_3, q1_5, q2_7, q3_9, q4_11, q5_13, k0_4, k1_6, k2_8, k3_10, k4_12, k5_14, q_15, q_17, k_16, k_18, by rw [ht]; exact hP9, va_K.moved hW.alike hK9, hD9⟩⟩, hS.F ht⟩) hS.2.2 dX10_init_41
set_option maxHeartbeats 4000000 in
set_option maxRecDepth 100000 in
/-- Past(): nothing kept -/
theorem c_Past_init (l : Launch) (dC : Nat → ClassId) (dI : Nat → Nat → Nat) (h0 : Nat) (sz : Nat) : Met l yX4_init (ws_u yX4_init cX4_init 2 none) ({ frames := 2, cells := 141, slots := 920, locals := 48 }) (va_Pc [.ref h0] (cPre (dC, dI) [] [(h0, .inr (4, [.null, .int 0, .int 0]))] sz)) (va_Qv (fun _ : Unit => True) (fun _ t => ∃ (pr : Nat), cPost (dC, dI) [] [(h0, .inr (4, [.ref pr, .int 0, .int 0]))] (va_A [(h0, .inr (4, [.null, .int 0, .int 0]))] sz) t) (va_A [(h0, .inr (4, [.null, .int 0, .int 0]))] sz)) 141 920 (va_A [(h0, .inr (4, [.null, .int 0, .int 0]))] sz) := by
  refine Met.ofW (cc := cX4_init) (maxL := 2) (ret := none) (by decide) rfl ?_
  intro p e s m args below meth c s₁ B hml hv
  obtain ⟨rfl, hsz, hP, hK, hD0, hE⟩ := hv
  have hx := B.exec
  have hb := B.bytes
  have hr := B.returns
  have hts0 := atoms_spec (ws := ws_u yX4_init cX4_init 2 none) B.pre
  have hts : ∀ w ∈ gT, w.before _ s = true := fun w h => hts0 w (List.mem_cons_of_mem _ h)
  have hown : s.vm.findClass RX4 = some m.cls := findClass_of_methodNamed B.named
  have hlocks := B.notSynchronized
  have hin : meth.name = "<init>" := (name_of_methodNamed B.named B.method).1
  subst hsz
  have hD := hD0.self (sz := s.heap.size)
  generalize hAe : va_A [(h0, .inr (4, [.null, .int 0, .int 0]))] s.heap.size = A at hD ⊢
  have hA : ∀ q : Nat, s.heap.size ≤ q → A q := fun q h => by rw [← hAe]; exact Or.inr h
  have hS : va_S A s.heap s.heap [] := va_S.rf
  have hl := lv_entry ([.ref h0]) (n := 2) (Nat.le_of_ble_eq_true rfl)
  rw [lg_entry_eq]
  generalize (lg_sl ([.ref h0]) ++ List.replicate (2 - (lg_sl ([.ref h0])).length) Slot.unset).toArray = ls at hl ⊢
  have hl : lv_has ls 2 [(0, .ref h0)] := hl
  have hP : va_P (dC, dI) vwCl [(h0, .inr (4, [.null, .int 0, .int 0]))] s.heap := hP
  try clear hAe
  refine lv_aload_n hx hb dX4_init_0 rfl (lv_at hl 0 rfl) ?_
  refine W.objInit hx hb hown (hts _ tw_323) (hts _ tw_28) (hts _ tw_29) rfl (by rw [hml]; exact hl.1) rfl dX4_init_1 (Nat.le_of_ble_eq_true rfl) (Nat.le_of_ble_eq_true rfl) ?_
  refine W.eq (g2 := F0 m 4 ls []) rfl ?_
  refine lv_aload_n hx hb dX4_init_4 rfl (lv_at hl 0 rfl) ?_
  refine lv_bipush (v := 20) hx hb dX4_init_5 (by decide) ?_
  refine va_newq (D := (dC, dI)) (C := RX8) (N' := 20) hx hb hown (hts _ tw_324) hE.aoX8 hK hP hD hS hA (by decide) (by decide) (Nat.le_of_ble_eq_true rfl) (Nat.le_of_ble_eq_true rfl) (Nat.le_of_ble_eq_true rfl) dX4_init_7 (fun q_1 k_2 H hK hP hD hS => ?_)
  have hK : va_K (dC, dI) vwCl [(k_2, .object RX8)] s := hK
  have hP : va_P (dC, dI) vwCl [(h0, .inr (4, [.null, .int 0, .int 0])), (q_1, .inl (k_2, 20, .inr (.inr (.inr (.inr (fun _ => none))))))] H := hP
  have hD : va_D A [(h0, .inr (4, [.null, .int 0, .int 0])), (q_1, .inl (k_2, 20, .inr (.inr (.inr (.inr (fun _ => none))))))] := hD
  refine va_putF (D := (dC, dI)) (ci := 4) (v := .ref q_1) (C := RX4) (T := TX4) (N := 3) hx hb hts iX4 tyX4 tyX4_ok nmX4 hown hK hP hD hS 0 rfl rfl 0 (by decide) (hts _ tw_327) (fun _ h9 => h9) rfl hin rfl (tyX4_ok 0 (by decide)) rfl rfl (Nat.le_of_ble_eq_true rfl) dX4_init_10 (fun H locs hP hD hS => ?_)
  have hP : va_P (dC, dI) vwCl [(h0, .inr (4, [.ref q_1, .int 0, .int 0])), (q_1, .inl (k_2, 20, .inr (.inr (.inr (.inr (fun _ => none))))))] H := hP
  have hD : va_D A [(h0, .inr (4, [.ref q_1, .int 0, .int 0])), (q_1, .inl (k_2, 20, .inr (.inr (.inr (.inr (fun _ => none))))))] := hD
  refine lv_iconst (v := 0) hx hb dX4_init_13 (by decide) ?_
  refine lv_istore_n (lv' := [(1, .int 0), (0, .ref h0)]) hx hb dX4_init_14 rfl hl (by decide) rfl (fun ls hl => ?_)
  refine lv_iload_n hx hb dX4_init_15 rfl (lv_at hl 0 rfl) ?_
  refine lv_bipush (v := 20) hx hb dX4_init_16 (by decide) ?_
  refine lv_icmp_ge (tgt := 40) hx hb dX4_init_18 (by decide) (fun c_3 => absurd c_3 (by decide)) (fun c_3 => ?_)
  refine lv_aload_n hx hb dX4_init_21 rfl (lv_at hl 1 rfl) ?_
  refine va_get (D := (dC, dI)) (ci := 4) (v := .ref q_1) (C := RX4) (T := TX4) (N := 3) hx hb hts iX4 hown hK hP 0 rfl rfl 0 (by decide) (hts _ tw_327) (fun _ h9 => h9) rfl dX4_init_22 ?_
  refine lv_iload_n hx hb dX4_init_25 rfl (lv_at hl 0 rfl) ?_
  refine va_new (ci := 8) (fs := [.int 0, .int 0, .int 0, .int 0, .int 0, .int 0, .int 0, .null, .null, .null, .null, .null, .null]) (C := RX8) (T := TX8) (N := 13) hx hb hts iX8 tyX8 tyX8_ok hown (hts _ tw_324) (hts _ tw_215) (hts _ tw_8) hK hP hD hS hA rfl (dfX8) (Nat.le_of_ble_eq_true rfl) (Nat.le_of_ble_eq_true rfl) dX4_init_26 (fun q_4 H hP hD hS => ?_)
  have hP : va_P (dC, dI) vwCl [(h0, .inr (4, [.ref q_1, .int 0, .int 0])), (q_1, .inl (k_2, 20, .inr (.inr (.inr (.inr (fun _ => none)))))), (q_4, .inr (8, [.int 0, .int 0, .int 0, .int 0, .int 0, .int 0, .int 0, .null, .null, .null, .null, .null, .null]))] H := hP
  have hD : va_D A [(h0, .inr (4, [.ref q_1, .int 0, .int 0])), (q_1, .inl (k_2, 20, .inr (.inr (.inr (.inr (fun _ => none)))))), (q_4, .inr (8, [.int 0, .int 0, .int 0, .int 0, .int 0, .int 0, .int 0, .null, .null, .null, .null, .null, .null]))] := hD
  refine lv_dup hx hb dX4_init_29 rfl ?_
  have hPc := hP.sub (ws' := [(q_4, .inr (8, [.int 0, .int 0, .int 0, .int 0, .int 0, .int 0, .int 0, .null, .null, .null, .null, .null, .null]))]) [2] rfl
  have hDc := hD.sub (ws' := [(q_4, .inr (8, [.int 0, .int 0, .int 0, .int 0, .int 0, .int 0, .int 0, .null, .null, .null, .null, .null, .null]))]) [2] (by decide) rfl
  have hKc := hK.sub (tys' := []) [] rfl
  have hFc := va_free (wc := [(q_4, .inr (8, [.int 0, .int 0, .int 0, .int 0, .int 0, .int 0, .int 0, .null, .null, .null, .null, .null, .null]))]) hD hS hA [2] rfl
  refine va_callv (va_runI (As := []) (rest := [.ref q_4, .int 0, .ref q_1]) ⟨hx, hb, hml, hown, hts⟩ (c_Standing_init l dC dI q_4  H.size) (cwI 0 hts (gU tw_218) rfl rfl rfl (hts _ tw_8) (hts _ tw_326) (hts _ tw_217) rfl (by decide +kernel) ⟨(Nat.le_of_ble_eq_true rfl), (Nat.le_of_ble_eq_true rfl)⟩) ⟨cPre.blind, cPre.use hPc hKc hDc hE⟩ rfl rfl hl.1 rfl (lv_room (Nat.le_of_ble_eq_true rfl)) dX4_init_30 ⟨(Nat.le_of_ble_eq_true rfl), (Nat.le_of_ble_eq_true rfl)⟩) hS (fun q _ h => hFc q h) hFc (fun u t H1 locs ht hvm hw hB hz1 hk1 hS => ?_)
  obtain ⟨q0_6, k0_7, q1_8, k1_9, q2_10, k2_11, q3_12, k3_13, q4_14, k4_15, q5_16, k5_17, hP1, hK1, hD1⟩ := hB
  rw [ht] at hP1
  obtain ⟨hP, hD⟩ := va_join (wr := [(h0, .inr (4, [.ref q_1, .int 0, .int 0])), (q_1, .inl (k_2, 20, .inr (.inr (.inr (.inr (fun _ => none))))))]) (w1 := [(q_4, .inr (8, [.int 0, .int (-1), .int (-1), .int 0, .int 0, .int 0, .int 0, .ref q0_6, .ref q1_8, .ref q2_10, .ref q3_12, .ref q4_14, .ref q5_16])), (q0_6, .inl (k0_7, 6, .inl (fun _ => 0))), (q1_8, .inl (k1_9, 6, .inl (fun _ => 0))), (q2_10, .inl (k2_11, 6, .inl (fun _ => 0))), (q3_12, .inl (k3_13, 4, .inl (fun _ => 0))), (q4_14, .inl (k4_15, 4, .inl (fun _ => 0))), (q5_16, .inl (k5_17, 6, .inl (fun _ => 0)))]) hP hD [2] [0, 1] rfl rfl (by decide) (by decide) hk1 hFc hP1 hD1
  have hK1 := va_K.moved hvm.symm hK1
  have hK := hK.app (hK1.sub (tys' := [(k0_7, .int), (k1_9, .int), (k2_11, .int), (k3_13, .int), (k4_15, .int), (k5_17, .int)]) [0, 1, 2, 3, 4, 5] rfl)
  have hK : va_K (dC, dI) vwCl [(k_2, .object RX8), (k0_7, .int), (k1_9, .int), (k2_11, .int), (k3_13, .int), (k4_15, .int), (k5_17, .int)] s := hK
  generalize H1 = H at hP hS ⊢
  have hP : va_P (dC, dI) vwCl [(h0, .inr (4, [.ref q_1, .int 0, .int 0])), (q_1, .inl (k_2, 20, .inr (.inr (.inr (.inr (fun _ => none)))))), (q_4, .inr (8, [.int 0, .int (-1), .int (-1), .int 0, .int 0, .int 0, .int 0, .ref q0_6, .ref q1_8, .ref q2_10, .ref q3_12, .ref q4_14, .ref q5_16])), (q0_6, .inl (k0_7, 6, .inl (fun _ => 0))), (q1_8, .inl (k1_9, 6, .inl (fun _ => 0))), (q2_10, .inl (k2_11, 6, .inl (fun _ => 0))), (q3_12, .inl (k3_13, 4, .inl (fun _ => 0))), (q4_14, .inl (k4_15, 4, .inl (fun _ => 0))), (q5_16, .inl (k5_17, 6, .inl (fun _ => 0)))] H := hP
  have hD : va_D A [(h0, .inr (4, [.ref q_1, .int 0, .int 0])), (q_1, .inl (k_2, 20, .inr (.inr (.inr (.inr (fun _ => none)))))), (q_4, .inr (8, [.int 0, .int (-1), .int (-1), .int 0, .int 0, .int 0, .int 0, .ref q0_6, .ref q1_8, .ref q2_10, .ref q3_12, .ref q4_14, .ref q5_16])), (q0_6, .inl (k0_7, 6, .inl (fun _ => 0))), (q1_8, .inl (k1_9, 6, .inl (fun _ => 0))), (q2_10, .inl (k2_11, 6, .inl (fun _ => 0))), (q3_12, .inl (k3_13, 4, .inl (fun _ => 0))), (q4_14, .inl (k4_15, 4, .inl (fun _ => 0))), (q5_16, .inl (k5_17, 6, .inl (fun _ => 0)))] := hD
  refine va_astq hx hb hK hP hD hS 1 0 2 8 rfl rfl rfl rfl (show vp_in 0 20 from (by decide : ¬ ((0 : Int32) < 0 ∨ 20 ≤ (0 : Int32).toNatClampNeg))) dX4_init_33 (fun H locs hP hD hS => ?_)
  have hP : va_P (dC, dI) vwCl [(h0, .inr (4, [.ref q_1, .int 0, .int 0])), (q_1, .inl (k_2, 20, .inr (.inr (.inr (.inr (va_up (fun _ => none) 0 (some q_4))))))), (q_4, .inr (8, [.int 0, .int (-1), .int (-1), .int 0, .int 0, .int 0, .int 0, .ref q0_6, .ref q1_8, .ref q2_10, .ref q3_12, .ref q4_14, .ref q5_16])), (q0_6, .inl (k0_7, 6, .inl (fun _ => 0))), (q1_8, .inl (k1_9, 6, .inl (fun _ => 0))), (q2_10, .inl (k2_11, 6, .inl (fun _ => 0))), (q3_12, .inl (k3_13, 4, .inl (fun _ => 0))), (q4_14, .inl (k4_15, 4, .inl (fun _ => 0))), (q5_16, .inl (k5_17, 6, .inl (fun _ => 0)))] H := hP
  have hD : va_D A [(h0, .inr (4, [.ref q_1, .int 0, .int 0])), (q_1, .inl (k_2, 20, .inr (.inr (.inr (.inr (va_up (fun _ => none) 0 (some q_4))))))), (q_4, .inr (8, [.int 0, .int (-1), .int (-1), .int 0, .int 0, .int 0, .int 0, .ref q0_6, .ref q1_8, .ref q2_10, .ref q3_12, .ref q4_14, .ref q5_16])), (q0_6, .inl (k0_7, 6, .inl (fun _ => 0))), (q1_8, .inl (k1_9, 6, .inl (fun _ => 0))), (q2_10, .inl (k2_11, 6, .inl (fun _ => 0))), (q3_12, .inl (k3_13, 4, .inl (fun _ => 0))), (q4_14, .inl (k4_15, 4, .inl (fun _ => 0))), (q5_16, .inl (k5_17, 6, .inl (fun _ => 0)))] := hD
  refine lv_iinc (v := 1) (lv' := [(1, .int 1), (0, .ref h0)]) hx hb dX4_init_34 hl (k := 0) rfl (by decide) (by decide) rfl (fun ls hl => ?_)
  refine lv_goto (tgt := 15) hx hb dX4_init_37 (by decide) ?_
  have hP := hP.sub (ws' := [(h0, .inr (4, [.ref q_1, .int 0, .int 0])), (q_1, .inl (k_2, 20, .inr (.inr (.inr (.inr (va_up (fun _ => none) 0 (some q_4)))))))]) [0, 1] rfl
  have hD := hD.sub (ws' := [(h0, .inr (4, [.ref q_1, .int 0, .int 0])), (q_1, .inl (k_2, 20, .inr (.inr (.inr (.inr (va_up (fun _ => none) 0 (some q_4)))))))]) [0, 1] (by decide) rfl
  have hK := hK.sub (tys' := [(k_2, .object RX8)]) [0] rfl
  generalize va_up (fun _ => none) 0 (some q_4) = g_18 at hP hD
  refine lv_iload_n hx hb dX4_init_15 rfl (lv_at hl 0 rfl) ?_
  refine lv_bipush (v := 20) hx hb dX4_init_16 (by decide) ?_
  refine lv_icmp_ge (tgt := 40) hx hb dX4_init_18 (by decide) (fun c_19 => absurd c_19 (by decide)) (fun c_19 => ?_)
  refine lv_aload_n hx hb dX4_init_21 rfl (lv_at hl 1 rfl) ?_
  refine va_get (D := (dC, dI)) (ci := 4) (v := .ref q_1) (C := RX4) (T := TX4) (N := 3) hx hb hts iX4 hown hK hP 0 rfl rfl 0 (by decide) (hts _ tw_327) (fun _ h9 => h9) rfl dX4_init_22 ?_
  refine lv_iload_n hx hb dX4_init_25 rfl (lv_at hl 0 rfl) ?_
  refine va_new (ci := 8) (fs := [.int 0, .int 0, .int 0, .int 0, .int 0, .int 0, .int 0, .null, .null, .null, .null, .null, .null]) (C := RX8) (T := TX8) (N := 13) hx hb hts iX8 tyX8 tyX8_ok hown (hts _ tw_324) (hts _ tw_215) (hts _ tw_8) hK hP hD hS hA rfl (dfX8) (Nat.le_of_ble_eq_true rfl) (Nat.le_of_ble_eq_true rfl) dX4_init_26 (fun q_20 H hP hD hS => ?_)
  have hP : va_P (dC, dI) vwCl [(h0, .inr (4, [.ref q_1, .int 0, .int 0])), (q_1, .inl (k_2, 20, .inr (.inr (.inr (.inr g_18))))), (q_20, .inr (8, [.int 0, .int 0, .int 0, .int 0, .int 0, .int 0, .int 0, .null, .null, .null, .null, .null, .null]))] H := hP
  have hD : va_D A [(h0, .inr (4, [.ref q_1, .int 0, .int 0])), (q_1, .inl (k_2, 20, .inr (.inr (.inr (.inr g_18))))), (q_20, .inr (8, [.int 0, .int 0, .int 0, .int 0, .int 0, .int 0, .int 0, .null, .null, .null, .null, .null, .null]))] := hD
  refine lv_dup hx hb dX4_init_29 rfl ?_
  have hPc := hP.sub (ws' := [(q_20, .inr (8, [.int 0, .int 0, .int 0, .int 0, .int 0, .int 0, .int 0, .null, .null, .null, .null, .null, .null]))]) [2] rfl
  have hDc := hD.sub (ws' := [(q_20, .inr (8, [.int 0, .int 0, .int 0, .int 0, .int 0, .int 0, .int 0, .null, .null, .null, .null, .null, .null]))]) [2] (by decide) rfl
  have hKc := hK.sub (tys' := []) [] rfl
  have hFc := va_free (wc := [(q_20, .inr (8, [.int 0, .int 0, .int 0, .int 0, .int 0, .int 0, .int 0, .null, .null, .null, .null, .null, .null]))]) hD hS hA [2] rfl
  refine va_callv (va_runI (As := []) (rest := [.ref q_20, .int 1, .ref q_1]) ⟨hx, hb, hml, hown, hts⟩ (c_Standing_init l dC dI q_20  H.size) (cwI 0 hts (gU tw_218) rfl rfl rfl (hts _ tw_8) (hts _ tw_326) (hts _ tw_217) rfl (by decide +kernel) ⟨(Nat.le_of_ble_eq_true rfl), (Nat.le_of_ble_eq_true rfl)⟩) ⟨cPre.blind, cPre.use hPc hKc hDc hE⟩ rfl rfl hl.1 rfl (lv_room (Nat.le_of_ble_eq_true rfl)) dX4_init_30 ⟨(Nat.le_of_ble_eq_true rfl), (Nat.le_of_ble_eq_true rfl)⟩) hS (fun q _ h => hFc q h) hFc (fun u t H1 locs ht hvm hw hB hz1 hk1 hS => ?_)
  obtain ⟨q0_22, k0_23, q1_24, k1_25, q2_26, k2_27, q3_28, k3_29, q4_30, k4_31, q5_32, k5_33, hP1, hK1, hD1⟩ := hB
  rw [ht] at hP1
  obtain ⟨hP, hD⟩ := va_join (wr := [(h0, .inr (4, [.ref q_1, .int 0, .int 0])), (q_1, .inl (k_2, 20, .inr (.inr (.inr (.inr g_18)))))]) (w1 := [(q_20, .inr (8, [.int 0, .int (-1), .int (-1), .int 0, .int 0, .int 0, .int 0, .ref q0_22, .ref q1_24, .ref q2_26, .ref q3_28, .ref q4_30, .ref q5_32])), (q0_22, .inl (k0_23, 6, .inl (fun _ => 0))), (q1_24, .inl (k1_25, 6, .inl (fun _ => 0))), (q2_26, .inl (k2_27, 6, .inl (fun _ => 0))), (q3_28, .inl (k3_29, 4, .inl (fun _ => 0))), (q4_30, .inl (k4_31, 4, .inl (fun _ => 0))), (q5_32, .inl (k5_33, 6, .inl (fun _ => 0)))]) hP hD [2] [0, 1] rfl rfl (by decide) (by decide) hk1 hFc hP1 hD1
  have hK1 := va_K.moved hvm.symm hK1
  have hK := hK.app (hK1.sub (tys' := [(k0_23, .int), (k1_25, .int), (k2_27, .int), (k3_29, .int), (k4_31, .int), (k5_33, .int)]) [0, 1, 2, 3, 4, 5] rfl)
  have hK : va_K (dC, dI) vwCl [(k_2, .object RX8), (k0_23, .int), (k1_25, .int), (k2_27, .int), (k3_29, .int), (k4_31, .int), (k5_33, .int)] s := hK
  generalize H1 = H at hP hS ⊢
  have hP : va_P (dC, dI) vwCl [(h0, .inr (4, [.ref q_1, .int 0, .int 0])), (q_1, .inl (k_2, 20, .inr (.inr (.inr (.inr g_18))))), (q_20, .inr (8, [.int 0, .int (-1), .int (-1), .int 0, .int 0, .int 0, .int 0, .ref q0_22, .ref q1_24, .ref q2_26, .ref q3_28, .ref q4_30, .ref q5_32])), (q0_22, .inl (k0_23, 6, .inl (fun _ => 0))), (q1_24, .inl (k1_25, 6, .inl (fun _ => 0))), (q2_26, .inl (k2_27, 6, .inl (fun _ => 0))), (q3_28, .inl (k3_29, 4, .inl (fun _ => 0))), (q4_30, .inl (k4_31, 4, .inl (fun _ => 0))), (q5_32, .inl (k5_33, 6, .inl (fun _ => 0)))] H := hP
  have hD : va_D A [(h0, .inr (4, [.ref q_1, .int 0, .int 0])), (q_1, .inl (k_2, 20, .inr (.inr (.inr (.inr g_18))))), (q_20, .inr (8, [.int 0, .int (-1), .int (-1), .int 0, .int 0, .int 0, .int 0, .ref q0_22, .ref q1_24, .ref q2_26, .ref q3_28, .ref q4_30, .ref q5_32])), (q0_22, .inl (k0_23, 6, .inl (fun _ => 0))), (q1_24, .inl (k1_25, 6, .inl (fun _ => 0))), (q2_26, .inl (k2_27, 6, .inl (fun _ => 0))), (q3_28, .inl (k3_29, 4, .inl (fun _ => 0))), (q4_30, .inl (k4_31, 4, .inl (fun _ => 0))), (q5_32, .inl (k5_33, 6, .inl (fun _ => 0)))] := hD
  refine va_astq hx hb hK hP hD hS 1 0 2 8 rfl rfl rfl rfl (show vp_in 1 20 from (by decide : ¬ ((1 : Int32) < 0 ∨ 20 ≤ (1 : Int32).toNatClampNeg))) dX4_init_33 (fun H locs hP hD hS => ?_)
  have hP : va_P (dC, dI) vwCl [(h0, .inr (4, [.ref q_1, .int 0, .int 0])), (q_1, .inl (k_2, 20, .inr (.inr (.inr (.inr (va_up g_18 1 (some q_20))))))), (q_20, .inr (8, [.int 0, .int (-1), .int (-1), .int 0, .int 0, .int 0, .int 0, .ref q0_22, .ref q1_24, .ref q2_26, .ref q3_28, .ref q4_30, .ref q5_32])), (q0_22, .inl (k0_23, 6, .inl (fun _ => 0))), (q1_24, .inl (k1_25, 6, .inl (fun _ => 0))), (q2_26, .inl (k2_27, 6, .inl (fun _ => 0))), (q3_28, .inl (k3_29, 4, .inl (fun _ => 0))), (q4_30, .inl (k4_31, 4, .inl (fun _ => 0))), (q5_32, .inl (k5_33, 6, .inl (fun _ => 0)))] H := hP
  have hD : va_D A [(h0, .inr (4, [.ref q_1, .int 0, .int 0])), (q_1, .inl (k_2, 20, .inr (.inr (.inr (.inr (va_up g_18 1 (some q_20))))))), (q_20, .inr (8, [.int 0, .int (-1), .int (-1), .int 0, .int 0, .int 0, .int 0, .ref q0_22, .ref q1_24, .ref q2_26, .ref q3_28, .ref q4_30, .ref q5_32])), (q0_22, .inl (k0_23, 6, .inl (fun _ => 0))), (q1_24, .inl (k1_25, 6, .inl (fun _ => 0))), (q2_26, .inl (k2_27, 6, .inl (fun _ => 0))), (q3_28, .inl (k3_29, 4, .inl (fun _ => 0))), (q4_30, .inl (k4_31, 4, .inl (fun _ => 0))), (q5_32, .inl (k5_33, 6, .inl (fun _ => 0)))] := hD
  refine lv_iinc (v := 2) (lv' := [(1, .int 2), (0, .ref h0)]) hx hb dX4_init_34 hl (k := 0) rfl (by decide) (by decide) rfl (fun ls hl => ?_)
  refine lv_goto (tgt := 15) hx hb dX4_init_37 (by decide) ?_
  have hP := hP.sub (ws' := [(h0, .inr (4, [.ref q_1, .int 0, .int 0])), (q_1, .inl (k_2, 20, .inr (.inr (.inr (.inr (va_up g_18 1 (some q_20)))))))]) [0, 1] rfl
  have hD := hD.sub (ws' := [(h0, .inr (4, [.ref q_1, .int 0, .int 0])), (q_1, .inl (k_2, 20, .inr (.inr (.inr (.inr (va_up g_18 1 (some q_20)))))))]) [0, 1] (by decide) rfl
  have hK := hK.sub (tys' := [(k_2, .object RX8)]) [0] rfl
  generalize va_up g_18 1 (some q_20) = g_34 at hP hD
  refine lv_iload_n hx hb dX4_init_15 rfl (lv_at hl 0 rfl) ?_
  refine lv_bipush (v := 20) hx hb dX4_init_16 (by decide) ?_
  refine lv_icmp_ge (tgt := 40) hx hb dX4_init_18 (by decide) (fun c_35 => absurd c_35 (by decide)) (fun c_35 => ?_)
  refine lv_aload_n hx hb dX4_init_21 rfl (lv_at hl 1 rfl) ?_
  refine va_get (D := (dC, dI)) (ci := 4) (v := .ref q_1) (C := RX4) (T := TX4) (N := 3) hx hb hts iX4 hown hK hP 0 rfl rfl 0 (by decide) (hts _ tw_327) (fun _ h9 => h9) rfl dX4_init_22 ?_
  refine lv_iload_n hx hb dX4_init_25 rfl (lv_at hl 0 rfl) ?_
  refine va_new (ci := 8) (fs := [.int 0, .int 0, .int 0, .int 0, .int 0, .int 0, .int 0, .null, .null, .null, .null, .null, .null]) (C := RX8) (T := TX8) (N := 13) hx hb hts iX8 tyX8 tyX8_ok hown (hts _ tw_324) (hts _ tw_215) (hts _ tw_8) hK hP hD hS hA rfl (dfX8) (Nat.le_of_ble_eq_true rfl) (Nat.le_of_ble_eq_true rfl) dX4_init_26 (fun q_36 H hP hD hS => ?_)
  have hP : va_P (dC, dI) vwCl [(h0, .inr (4, [.ref q_1, .int 0, .int 0])), (q_1, .inl (k_2, 20, .inr (.inr (.inr (.inr g_34))))), (q_36, .inr (8, [.int 0, .int 0, .int 0, .int 0, .int 0, .int 0, .int 0, .null, .null, .null, .null, .null, .null]))] H := hP
  have hD : va_D A [(h0, .inr (4, [.ref q_1, .int 0, .int 0])), (q_1, .inl (k_2, 20, .inr (.inr (.inr (.inr g_34))))), (q_36, .inr (8, [.int 0, .int 0, .int 0, .int 0, .int 0, .int 0, .int 0, .null, .null, .null, .null, .null, .null]))] := hD
  refine lv_dup hx hb dX4_init_29 rfl ?_
  have hPc := hP.sub (ws' := [(q_36, .inr (8, [.int 0, .int 0, .int 0, .int 0, .int 0, .int 0, .int 0, .null, .null, .null, .null, .null, .null]))]) [2] rfl
  have hDc := hD.sub (ws' := [(q_36, .inr (8, [.int 0, .int 0, .int 0, .int 0, .int 0, .int 0, .int 0, .null, .null, .null, .null, .null, .null]))]) [2] (by decide) rfl
  have hKc := hK.sub (tys' := []) [] rfl
  have hFc := va_free (wc := [(q_36, .inr (8, [.int 0, .int 0, .int 0, .int 0, .int 0, .int 0, .int 0, .null, .null, .null, .null, .null, .null]))]) hD hS hA [2] rfl
  refine va_callv (va_runI (As := []) (rest := [.ref q_36, .int 2, .ref q_1]) ⟨hx, hb, hml, hown, hts⟩ (c_Standing_init l dC dI q_36  H.size) (cwI 0 hts (gU tw_218) rfl rfl rfl (hts _ tw_8) (hts _ tw_326) (hts _ tw_217) rfl (by decide +kernel) ⟨(Nat.le_of_ble_eq_true rfl), (Nat.le_of_ble_eq_true rfl)⟩) ⟨cPre.blind, cPre.use hPc hKc hDc hE⟩ rfl rfl hl.1 rfl (lv_room (Nat.le_of_ble_eq_true rfl)) dX4_init_30 ⟨(Nat.le_of_ble_eq_true rfl), (Nat.le_of_ble_eq_true rfl)⟩) hS (fun q _ h => hFc q h) hFc (fun u t H1 locs ht hvm hw hB hz1 hk1 hS => ?_)
  obtain ⟨q0_38, k0_39, q1_40, k1_41, q2_42, k2_43, q3_44, k3_45, q4_46, k4_47, q5_48, k5_49, hP1, hK1, hD1⟩ := hB
  rw [ht] at hP1
  obtain ⟨hP, hD⟩ := va_join (wr := [(h0, .inr (4, [.ref q_1, .int 0, .int 0])), (q_1, .inl (k_2, 20, .inr (.inr (.inr (.inr g_34)))))]) (w1 := [(q_36, .inr (8, [.int 0, .int (-1), .int (-1), .int 0, .int 0, .int 0, .int 0, .ref q0_38, .ref q1_40, .ref q2_42, .ref q3_44, .ref q4_46, .ref q5_48])), (q0_38, .inl (k0_39, 6, .inl (fun _ => 0))), (q1_40, .inl (k1_41, 6, .inl (fun _ => 0))), (q2_42, .inl (k2_43, 6, .inl (fun _ => 0))), (q3_44, .inl (k3_45, 4, .inl (fun _ => 0))), (q4_46, .inl (k4_47, 4, .inl (fun _ => 0))), (q5_48, .inl (k5_49, 6, .inl (fun _ => 0)))]) hP hD [2] [0, 1] rfl rfl (by decide) (by decide) hk1 hFc hP1 hD1
  have hK1 := va_K.moved hvm.symm hK1
  have hK := hK.app (hK1.sub (tys' := [(k0_39, .int), (k1_41, .int), (k2_43, .int), (k3_45, .int), (k4_47, .int), (k5_49, .int)]) [0, 1, 2, 3, 4, 5] rfl)
  have hK : va_K (dC, dI) vwCl [(k_2, .object RX8), (k0_39, .int), (k1_41, .int), (k2_43, .int), (k3_45, .int), (k4_47, .int), (k5_49, .int)] s := hK
  generalize H1 = H at hP hS ⊢
  have hP : va_P (dC, dI) vwCl [(h0, .inr (4, [.ref q_1, .int 0, .int 0])), (q_1, .inl (k_2, 20, .inr (.inr (.inr (.inr g_34))))), (q_36, .inr (8, [.int 0, .int (-1), .int (-1), .int 0, .int 0, .int 0, .int 0, .ref q0_38, .ref q1_40, .ref q2_42, .ref q3_44, .ref q4_46, .ref q5_48])), (q0_38, .inl (k0_39, 6, .inl (fun _ => 0))), (q1_40, .inl (k1_41, 6, .inl (fun _ => 0))), (q2_42, .inl (k2_43, 6, .inl (fun _ => 0))), (q3_44, .inl (k3_45, 4, .inl (fun _ => 0))), (q4_46, .inl (k4_47, 4, .inl (fun _ => 0))), (q5_48, .inl (k5_49, 6, .inl (fun _ => 0)))] H := hP
  have hD : va_D A [(h0, .inr (4, [.ref q_1, .int 0, .int 0])), (q_1, .inl (k_2, 20, .inr (.inr (.inr (.inr g_34))))), (q_36, .inr (8, [.int 0, .int (-1), .int (-1), .int 0, .int 0, .int 0, .int 0, .ref q0_38, .ref q1_40, .ref q2_42, .ref q3_44, .ref q4_46, .ref q5_48])), (q0_38, .inl (k0_39, 6, .inl (fun _ => 0))), (q1_40, .inl (k1_41, 6, .inl (fun _ => 0))), (q2_42, .inl (k2_43, 6, .inl (fun _ => 0))), (q3_44, .inl (k3_45, 4, .inl (fun _ => 0))), (q4_46, .inl (k4_47, 4, .inl (fun _ => 0))), (q5_48, .inl (k5_49, 6, .inl (fun _ => 0)))] := hD
  refine va_astq hx hb hK hP hD hS 1 0 2 8 rfl rfl rfl rfl (show vp_in 2 20 from (by decide : ¬ ((2 : Int32) < 0 ∨ 20 ≤ (2 : Int32).toNatClampNeg))) dX4_init_33 (fun H locs hP hD hS => ?_)
  have hP : va_P (dC, dI) vwCl [(h0, .inr (4, [.ref q_1, .int 0, .int 0])), (q_1, .inl (k_2, 20, .inr (.inr (.inr (.inr (va_up g_34 2 (some q_36))))))), (q_36, .inr (8, [.int 0, .int (-1), .int (-1), .int 0, .int 0, .int 0, .int 0, .ref q0_38, .ref q1_40, .ref q2_42, .ref q3_44, .ref q4_46, .ref q5_48])), (q0_38, .inl (k0_39, 6, .inl (fun _ => 0))), (q1_40, .inl (k1_41, 6, .inl (fun _ => 0))), (q2_42, .inl (k2_43, 6, .inl (fun _ => 0))), (q3_44, .inl (k3_45, 4, .inl (fun _ => 0))), (q4_46, .inl (k4_47, 4, .inl (fun _ => 0))), (q5_48, .inl (k5_49, 6, .inl (fun _ => 0)))] H := hP
  have hD : va_D A [(h0, .inr (4, [.ref q_1, .int 0, .int 0])), (q_1, .inl (k_2, 20, .inr (.inr (.inr (.inr (va_up g_34 2 (some q_36))))))), (q_36, .inr (8, [.int 0, .int (-1), .int (-1), .int 0, .int 0, .int 0, .int 0, .ref q0_38, .ref q1_40, .ref q2_42, .ref q3_44, .ref q4_46, .ref q5_48])), (q0_38, .inl (k0_39, 6, .inl (fun _ => 0))), (q1_40, .inl (k1_41, 6, .inl (fun _ => 0))), (q2_42, .inl (k2_43, 6, .inl (fun _ => 0))), (q3_44, .inl (k3_45, 4, .inl (fun _ => 0))), (q4_46, .inl (k4_47, 4, .inl (fun _ => 0))), (q5_48, .inl (k5_49, 6, .inl (fun _ => 0)))] := hD
  refine lv_iinc (v := 3) (lv' := [(1, .int 3), (0, .ref h0)]) hx hb dX4_init_34 hl (k := 0) rfl (by decide) (by decide) rfl (fun ls hl => ?_)
  refine lv_goto (tgt := 15) hx hb dX4_init_37 (by decide) ?_
  have hP := hP.sub (ws' := [(h0, .inr (4, [.ref q_1, .int 0, .int 0])), (q_1, .inl (k_2, 20, .inr (.inr (.inr (.inr (va_up g_34 2 (some q_36)))))))]) [0, 1] rfl
  have hD := hD.sub (ws' := [(h0, .inr (4, [.ref q_1, .int 0, .int 0])), (q_1, .inl (k_2, 20, .inr (.inr (.inr (.inr (va_up g_34 2 (some q_36)))))))]) [0, 1] (by decide) rfl
  have hK := hK.sub (tys' := [(k_2, .object RX8)]) [0] rfl
  generalize va_up g_34 2 (some q_36) = g_50 at hP hD
  refine lv_iload_n hx hb dX4_init_15 rfl (lv_at hl 0 rfl) ?_
  refine lv_bipush (v := 20) hx hb dX4_init_16 (by decide) ?_
  refine lv_icmp_ge (tgt := 40) hx hb dX4_init_18 (by decide) (fun c_51 => absurd c_51 (by decide)) (fun c_51 => ?_)
  refine lv_aload_n hx hb dX4_init_21 rfl (lv_at hl 1 rfl) ?_
  refine va_get (D := (dC, dI)) (ci := 4) (v := .ref q_1) (C := RX4) (T := TX4) (N := 3) hx hb hts iX4 hown hK hP 0 rfl rfl 0 (by decide) (hts _ tw_327) (fun _ h9 => h9) rfl dX4_init_22 ?_
  refine lv_iload_n hx hb dX4_init_25 rfl (lv_at hl 0 rfl) ?_
  refine va_new (ci := 8) (fs := [.int 0, .int 0, .int 0, .int 0, .int 0, .int 0, .int 0, .null, .null, .null, .null, .null, .null]) (C := RX8) (T := TX8) (N := 13) hx hb hts iX8 tyX8 tyX8_ok hown (hts _ tw_324) (hts _ tw_215) (hts _ tw_8) hK hP hD hS hA rfl (dfX8) (Nat.le_of_ble_eq_true rfl) (Nat.le_of_ble_eq_true rfl) dX4_init_26 (fun q_52 H hP hD hS => ?_)
  have hP : va_P (dC, dI) vwCl [(h0, .inr (4, [.ref q_1, .int 0, .int 0])), (q_1, .inl (k_2, 20, .inr (.inr (.inr (.inr g_50))))), (q_52, .inr (8, [.int 0, .int 0, .int 0, .int 0, .int 0, .int 0, .int 0, .null, .null, .null, .null, .null, .null]))] H := hP
  have hD : va_D A [(h0, .inr (4, [.ref q_1, .int 0, .int 0])), (q_1, .inl (k_2, 20, .inr (.inr (.inr (.inr g_50))))), (q_52, .inr (8, [.int 0, .int 0, .int 0, .int 0, .int 0, .int 0, .int 0, .null, .null, .null, .null, .null, .null]))] := hD
  refine lv_dup hx hb dX4_init_29 rfl ?_
  have hPc := hP.sub (ws' := [(q_52, .inr (8, [.int 0, .int 0, .int 0, .int 0, .int 0, .int 0, .int 0, .null, .null, .null, .null, .null, .null]))]) [2] rfl
  have hDc := hD.sub (ws' := [(q_52, .inr (8, [.int 0, .int 0, .int 0, .int 0, .int 0, .int 0, .int 0, .null, .null, .null, .null, .null, .null]))]) [2] (by decide) rfl
  have hKc := hK.sub (tys' := []) [] rfl
  have hFc := va_free (wc := [(q_52, .inr (8, [.int 0, .int 0, .int 0, .int 0, .int 0, .int 0, .int 0, .null, .null, .null, .null, .null, .null]))]) hD hS hA [2] rfl
  refine va_callv (va_runI (As := []) (rest := [.ref q_52, .int 3, .ref q_1]) ⟨hx, hb, hml, hown, hts⟩ (c_Standing_init l dC dI q_52  H.size) (cwI 0 hts (gU tw_218) rfl rfl rfl (hts _ tw_8) (hts _ tw_326) (hts _ tw_217) rfl (by decide +kernel) ⟨(Nat.le_of_ble_eq_true rfl), (Nat.le_of_ble_eq_true rfl)⟩) ⟨cPre.blind, cPre.use hPc hKc hDc hE⟩ rfl rfl hl.1 rfl (lv_room (Nat.le_of_ble_eq_true rfl)) dX4_init_30 ⟨(Nat.le_of_ble_eq_true rfl), (Nat.le_of_ble_eq_true rfl)⟩) hS (fun q _ h => hFc q h) hFc (fun u t H1 locs ht hvm hw hB hz1 hk1 hS => ?_)
  obtain ⟨q0_54, k0_55, q1_56, k1_57, q2_58, k2_59, q3_60, k3_61, q4_62, k4_63, q5_64, k5_65, hP1, hK1, hD1⟩ := hB
  rw [ht] at hP1
  obtain ⟨hP, hD⟩ := va_join (wr := [(h0, .inr (4, [.ref q_1, .int 0, .int 0])), (q_1, .inl (k_2, 20, .inr (.inr (.inr (.inr g_50)))))]) (w1 := [(q_52, .inr (8, [.int 0, .int (-1), .int (-1), .int 0, .int 0, .int 0, .int 0, .ref q0_54, .ref q1_56, .ref q2_58, .ref q3_60, .ref q4_62, .ref q5_64])), (q0_54, .inl (k0_55, 6, .inl (fun _ => 0))), (q1_56, .inl (k1_57, 6, .inl (fun _ => 0))), (q2_58, .inl (k2_59, 6, .inl (fun _ => 0))), (q3_60, .inl (k3_61, 4, .inl (fun _ => 0))), (q4_62, .inl (k4_63, 4, .inl (fun _ => 0))), (q5_64, .inl (k5_65, 6, .inl (fun _ => 0)))]) hP hD [2] [0, 1] rfl rfl (by decide) (by decide) hk1 hFc hP1 hD1
  have hK1 := va_K.moved hvm.symm hK1
  have hK := hK.app (hK1.sub (tys' := [(k0_55, .int), (k1_57, .int), (k2_59, .int), (k3_61, .int), (k4_63, .int), (k5_65, .int)]) [0, 1, 2, 3, 4, 5] rfl)
  have hK : va_K (dC, dI) vwCl [(k_2, .object RX8), (k0_55, .int), (k1_57, .int), (k2_59, .int), (k3_61, .int), (k4_63, .int), (k5_65, .int)] s := hK
  generalize H1 = H at hP hS ⊢
  have hP : va_P (dC, dI) vwCl [(h0, .inr (4, [.ref q_1, .int 0, .int 0])), (q_1, .inl (k_2, 20, .inr (.inr (.inr (.inr g_50))))), (q_52, .inr (8, [.int 0, .int (-1), .int (-1), .int 0, .int 0, .int 0, .int 0, .ref q0_54, .ref q1_56, .ref q2_58, .ref q3_60, .ref q4_62, .ref q5_64])), (q0_54, .inl (k0_55, 6, .inl (fun _ => 0))), (q1_56, .inl (k1_57, 6, .inl (fun _ => 0))), (q2_58, .inl (k2_59, 6, .inl (fun _ => 0))), (q3_60, .inl (k3_61, 4, .inl (fun _ => 0))), (q4_62, .inl (k4_63, 4, .inl (fun _ => 0))), (q5_64, .inl (k5_65, 6, .inl (fun _ => 0)))] H := hP
  have hD : va_D A [(h0, .inr (4, [.ref q_1, .int 0, .int 0])), (q_1, .inl (k_2, 20, .inr (.inr (.inr (.inr g_50))))), (q_52, .inr (8, [.int 0, .int (-1), .int (-1), .int 0, .int 0, .int 0, .int 0, .ref q0_54, .ref q1_56, .ref q2_58, .ref q3_60, .ref q4_62, .ref q5_64])), (q0_54, .inl (k0_55, 6, .inl (fun _ => 0))), (q1_56, .inl (k1_57, 6, .inl (fun _ => 0))), (q2_58, .inl (k2_59, 6, .inl (fun _ => 0))), (q3_60, .inl (k3_61, 4, .inl (fun _ => 0))), (q4_62, .inl (k4_63, 4, .inl (fun _ => 0))), (q5_64, .inl (k5_65, 6, .inl (fun _ => 0)))] := hD
  refine va_astq hx hb hK hP hD hS 1 0 2 8 rfl rfl rfl rfl (show vp_in 3 20 from (by decide : ¬ ((3 : Int32) < 0 ∨ 20 ≤ (3 : Int32).toNatClampNeg))) dX4_init_33 (fun H locs hP hD hS => ?_)
  have hP : va_P (dC, dI) vwCl [(h0, .inr (4, [.ref q_1, .int 0, .int 0])), (q_1, .inl (k_2, 20, .inr (.inr (.inr (.inr (va_up g_50 3 (some q_52))))))), (q_52, .inr (8, [.int 0, .int (-1), .int (-1), .int 0, .int 0, .int 0, .int 0, .ref q0_54, .ref q1_56, .ref q2_58, .ref q3_60, .ref q4_62, .ref q5_64])), (q0_54, .inl (k0_55, 6, .inl (fun _ => 0))), (q1_56, .inl (k1_57, 6, .inl (fun _ => 0))), (q2_58, .inl (k2_59, 6, .inl (fun _ => 0))), (q3_60, .inl (k3_61, 4, .inl (fun _ => 0))), (q4_62, .inl (k4_63, 4, .inl (fun _ => 0))), (q5_64, .inl (k5_65, 6, .inl (fun _ => 0)))] H := hP
  have hD : va_D A [(h0, .inr (4, [.ref q_1, .int 0, .int 0])), (q_1, .inl (k_2, 20, .inr (.inr (.inr (.inr (va_up g_50 3 (some q_52))))))), (q_52, .inr (8, [.int 0, .int (-1), .int (-1), .int 0, .int 0, .int 0, .int 0, .ref q0_54, .ref q1_56, .ref q2_58, .ref q3_60, .ref q4_62, .ref q5_64])), (q0_54, .inl (k0_55, 6, .inl (fun _ => 0))), (q1_56, .inl (k1_57, 6, .inl (fun _ => 0))), (q2_58, .inl (k2_59, 6, .inl (fun _ => 0))), (q3_60, .inl (k3_61, 4, .inl (fun _ => 0))), (q4_62, .inl (k4_63, 4, .inl (fun _ => 0))), (q5_64, .inl (k5_65, 6, .inl (fun _ => 0)))] := hD
  refine lv_iinc (v := 4) (lv' := [(1, .int 4), (0, .ref h0)]) hx hb dX4_init_34 hl (k := 0) rfl (by decide) (by decide) rfl (fun ls hl => ?_)
  refine lv_goto (tgt := 15) hx hb dX4_init_37 (by decide) ?_
  have hP := hP.sub (ws' := [(h0, .inr (4, [.ref q_1, .int 0, .int 0])), (q_1, .inl (k_2, 20, .inr (.inr (.inr (.inr (va_up g_50 3 (some q_52)))))))]) [0, 1] rfl
  have hD := hD.sub (ws' := [(h0, .inr (4, [.ref q_1, .int 0, .int 0])), (q_1, .inl (k_2, 20, .inr (.inr (.inr (.inr (va_up g_50 3 (some q_52)))))))]) [0, 1] (by decide) rfl
  have hK := hK.sub (tys' := [(k_2, .object RX8)]) [0] rfl
  generalize va_up g_50 3 (some q_52) = g_66 at hP hD
  refine lv_iload_n hx hb dX4_init_15 rfl (lv_at hl 0 rfl) ?_
  refine lv_bipush (v := 20) hx hb dX4_init_16 (by decide) ?_
  refine lv_icmp_ge (tgt := 40) hx hb dX4_init_18 (by decide) (fun c_67 => absurd c_67 (by decide)) (fun c_67 => ?_)
  refine lv_aload_n hx hb dX4_init_21 rfl (lv_at hl 1 rfl) ?_
  refine va_get (D := (dC, dI)) (ci := 4) (v := .ref q_1) (C := RX4) (T := TX4) (N := 3) hx hb hts iX4 hown hK hP 0 rfl rfl 0 (by decide) (hts _ tw_327) (fun _ h9 => h9) rfl dX4_init_22 ?_
  refine lv_iload_n hx hb dX4_init_25 rfl (lv_at hl 0 rfl) ?_
  refine va_new (ci := 8) (fs := [.int 0, .int 0, .int 0, .int 0, .int 0, .int 0, .int 0, .null, .null, .null, .null, .null, .null]) (C := RX8) (T := TX8) (N := 13) hx hb hts iX8 tyX8 tyX8_ok hown (hts _ tw_324) (hts _ tw_215) (hts _ tw_8) hK hP hD hS hA rfl (dfX8) (Nat.le_of_ble_eq_true rfl) (Nat.le_of_ble_eq_true rfl) dX4_init_26 (fun q_68 H hP hD hS => ?_)
  have hP : va_P (dC, dI) vwCl [(h0, .inr (4, [.ref q_1, .int 0, .int 0])), (q_1, .inl (k_2, 20, .inr (.inr (.inr (.inr g_66))))), (q_68, .inr (8, [.int 0, .int 0, .int 0, .int 0, .int 0, .int 0, .int 0, .null, .null, .null, .null, .null, .null]))] H := hP
  have hD : va_D A [(h0, .inr (4, [.ref q_1, .int 0, .int 0])), (q_1, .inl (k_2, 20, .inr (.inr (.inr (.inr g_66))))), (q_68, .inr (8, [.int 0, .int 0, .int 0, .int 0, .int 0, .int 0, .int 0, .null, .null, .null, .null, .null, .null]))] := hD
  refine lv_dup hx hb dX4_init_29 rfl ?_
  have hPc := hP.sub (ws' := [(q_68, .inr (8, [.int 0, .int 0, .int 0, .int 0, .int 0, .int 0, .int 0, .null, .null, .null, .null, .null, .null]))]) [2] rfl
  have hDc := hD.sub (ws' := [(q_68, .inr (8, [.int 0, .int 0, .int 0, .int 0, .int 0, .int 0, .int 0, .null, .null, .null, .null, .null, .null]))]) [2] (by decide) rfl
  have hKc := hK.sub (tys' := []) [] rfl
  have hFc := va_free (wc := [(q_68, .inr (8, [.int 0, .int 0, .int 0, .int 0, .int 0, .int 0, .int 0, .null, .null, .null, .null, .null, .null]))]) hD hS hA [2] rfl
  refine va_callv (va_runI (As := []) (rest := [.ref q_68, .int 4, .ref q_1]) ⟨hx, hb, hml, hown, hts⟩ (c_Standing_init l dC dI q_68  H.size) (cwI 0 hts (gU tw_218) rfl rfl rfl (hts _ tw_8) (hts _ tw_326) (hts _ tw_217) rfl (by decide +kernel) ⟨(Nat.le_of_ble_eq_true rfl), (Nat.le_of_ble_eq_true rfl)⟩) ⟨cPre.blind, cPre.use hPc hKc hDc hE⟩ rfl rfl hl.1 rfl (lv_room (Nat.le_of_ble_eq_true rfl)) dX4_init_30 ⟨(Nat.le_of_ble_eq_true rfl), (Nat.le_of_ble_eq_true rfl)⟩) hS (fun q _ h => hFc q h) hFc (fun u t H1 locs ht hvm hw hB hz1 hk1 hS => ?_)
  obtain ⟨q0_70, k0_71, q1_72, k1_73, q2_74, k2_75, q3_76, k3_77, q4_78, k4_79, q5_80, k5_81, hP1, hK1, hD1⟩ := hB
  rw [ht] at hP1
  obtain ⟨hP, hD⟩ := va_join (wr := [(h0, .inr (4, [.ref q_1, .int 0, .int 0])), (q_1, .inl (k_2, 20, .inr (.inr (.inr (.inr g_66)))))]) (w1 := [(q_68, .inr (8, [.int 0, .int (-1), .int (-1), .int 0, .int 0, .int 0, .int 0, .ref q0_70, .ref q1_72, .ref q2_74, .ref q3_76, .ref q4_78, .ref q5_80])), (q0_70, .inl (k0_71, 6, .inl (fun _ => 0))), (q1_72, .inl (k1_73, 6, .inl (fun _ => 0))), (q2_74, .inl (k2_75, 6, .inl (fun _ => 0))), (q3_76, .inl (k3_77, 4, .inl (fun _ => 0))), (q4_78, .inl (k4_79, 4, .inl (fun _ => 0))), (q5_80, .inl (k5_81, 6, .inl (fun _ => 0)))]) hP hD [2] [0, 1] rfl rfl (by decide) (by decide) hk1 hFc hP1 hD1
  have hK1 := va_K.moved hvm.symm hK1
  have hK := hK.app (hK1.sub (tys' := [(k0_71, .int), (k1_73, .int), (k2_75, .int), (k3_77, .int), (k4_79, .int), (k5_81, .int)]) [0, 1, 2, 3, 4, 5] rfl)
  have hK : va_K (dC, dI) vwCl [(k_2, .object RX8), (k0_71, .int), (k1_73, .int), (k2_75, .int), (k3_77, .int), (k4_79, .int), (k5_81, .int)] s := hK
  generalize H1 = H at hP hS ⊢
  have hP : va_P (dC, dI) vwCl [(h0, .inr (4, [.ref q_1, .int 0, .int 0])), (q_1, .inl (k_2, 20, .inr (.inr (.inr (.inr g_66))))), (q_68, .inr (8, [.int 0, .int (-1), .int (-1), .int 0, .int 0, .int 0, .int 0, .ref q0_70, .ref q1_72, .ref q2_74, .ref q3_76, .ref q4_78, .ref q5_80])), (q0_70, .inl (k0_71, 6, .inl (fun _ => 0))), (q1_72, .inl (k1_73, 6, .inl (fun _ => 0))), (q2_74, .inl (k2_75, 6, .inl (fun _ => 0))), (q3_76, .inl (k3_77, 4, .inl (fun _ => 0))), (q4_78, .inl (k4_79, 4, .inl (fun _ => 0))), (q5_80, .inl (k5_81, 6, .inl (fun _ => 0)))] H := hP
  have hD : va_D A [(h0, .inr (4, [.ref q_1, .int 0, .int 0])), (q_1, .inl (k_2, 20, .inr (.inr (.inr (.inr g_66))))), (q_68, .inr (8, [.int 0, .int (-1), .int (-1), .int 0, .int 0, .int 0, .int 0, .ref q0_70, .ref q1_72, .ref q2_74, .ref q3_76, .ref q4_78, .ref q5_80])), (q0_70, .inl (k0_71, 6, .inl (fun _ => 0))), (q1_72, .inl (k1_73, 6, .inl (fun _ => 0))), (q2_74, .inl (k2_75, 6, .inl (fun _ => 0))), (q3_76, .inl (k3_77, 4, .inl (fun _ => 0))), (q4_78, .inl (k4_79, 4, .inl (fun _ => 0))), (q5_80, .inl (k5_81, 6, .inl (fun _ => 0)))] := hD
  refine va_astq hx hb hK hP hD hS 1 0 2 8 rfl rfl rfl rfl (show vp_in 4 20 from (by decide : ¬ ((4 : Int32) < 0 ∨ 20 ≤ (4 : Int32).toNatClampNeg))) dX4_init_33 (fun H locs hP hD hS => ?_)
  have hP : va_P (dC, dI) vwCl [(h0, .inr (4, [.ref q_1, .int 0, .int 0])), (q_1, .inl (k_2, 20, .inr (.inr (.inr (.inr (va_up g_66 4 (some q_68))))))), (q_68, .inr (8, [.int 0, .int (-1), .int (-1), .int 0, .int 0, .int 0, .int 0, .ref q0_70, .ref q1_72, .ref q2_74, .ref q3_76, .ref q4_78, .ref q5_80])), (q0_70, .inl (k0_71, 6, .inl (fun _ => 0))), (q1_72, .inl (k1_73, 6, .inl (fun _ => 0))), (q2_74, .inl (k2_75, 6, .inl (fun _ => 0))), (q3_76, .inl (k3_77, 4, .inl (fun _ => 0))), (q4_78, .inl (k4_79, 4, .inl (fun _ => 0))), (q5_80, .inl (k5_81, 6, .inl (fun _ => 0)))] H := hP
  have hD : va_D A [(h0, .inr (4, [.ref q_1, .int 0, .int 0])), (q_1, .inl (k_2, 20, .inr (.inr (.inr (.inr (va_up g_66 4 (some q_68))))))), (q_68, .inr (8, [.int 0, .int (-1), .int (-1), .int 0, .int 0, .int 0, .int 0, .ref q0_70, .ref q1_72, .ref q2_74, .ref q3_76, .ref q4_78, .ref q5_80])), (q0_70, .inl (k0_71, 6, .inl (fun _ => 0))), (q1_72, .inl (k1_73, 6, .inl (fun _ => 0))), (q2_74, .inl (k2_75, 6, .inl (fun _ => 0))), (q3_76, .inl (k3_77, 4, .inl (fun _ => 0))), (q4_78, .inl (k4_79, 4, .inl (fun _ => 0))), (q5_80, .inl (k5_81, 6, .inl (fun _ => 0)))] := hD
  refine lv_iinc (v := 5) (lv' := [(1, .int 5), (0, .ref h0)]) hx hb dX4_init_34 hl (k := 0) rfl (by decide) (by decide) rfl (fun ls hl => ?_)
  refine lv_goto (tgt := 15) hx hb dX4_init_37 (by decide) ?_
  have hP := hP.sub (ws' := [(h0, .inr (4, [.ref q_1, .int 0, .int 0])), (q_1, .inl (k_2, 20, .inr (.inr (.inr (.inr (va_up g_66 4 (some q_68)))))))]) [0, 1] rfl
  have hD := hD.sub (ws' := [(h0, .inr (4, [.ref q_1, .int 0, .int 0])), (q_1, .inl (k_2, 20, .inr (.inr (.inr (.inr (va_up g_66 4 (some q_68)))))))]) [0, 1] (by decide) rfl
  have hK := hK.sub (tys' := [(k_2, .object RX8)]) [0] rfl
  generalize va_up g_66 4 (some q_68) = g_82 at hP hD
  refine lv_iload_n hx hb dX4_init_15 rfl (lv_at hl 0 rfl) ?_
  refine lv_bipush (v := 20) hx hb dX4_init_16 (by decide) ?_
  refine lv_icmp_ge (tgt := 40) hx hb dX4_init_18 (by decide) (fun c_83 => absurd c_83 (by decide)) (fun c_83 => ?_)
  refine lv_aload_n hx hb dX4_init_21 rfl (lv_at hl 1 rfl) ?_
  refine va_get (D := (dC, dI)) (ci := 4) (v := .ref q_1) (C := RX4) (T := TX4) (N := 3) hx hb hts iX4 hown hK hP 0 rfl rfl 0 (by decide) (hts _ tw_327) (fun _ h9 => h9) rfl dX4_init_22 ?_
  refine lv_iload_n hx hb dX4_init_25 rfl (lv_at hl 0 rfl) ?_
  refine va_new (ci := 8) (fs := [.int 0, .int 0, .int 0, .int 0, .int 0, .int 0, .int 0, .null, .null, .null, .null, .null, .null]) (C := RX8) (T := TX8) (N := 13) hx hb hts iX8 tyX8 tyX8_ok hown (hts _ tw_324) (hts _ tw_215) (hts _ tw_8) hK hP hD hS hA rfl (dfX8) (Nat.le_of_ble_eq_true rfl) (Nat.le_of_ble_eq_true rfl) dX4_init_26 (fun q_84 H hP hD hS => ?_)
  have hP : va_P (dC, dI) vwCl [(h0, .inr (4, [.ref q_1, .int 0, .int 0])), (q_1, .inl (k_2, 20, .inr (.inr (.inr (.inr g_82))))), (q_84, .inr (8, [.int 0, .int 0, .int 0, .int 0, .int 0, .int 0, .int 0, .null, .null, .null, .null, .null, .null]))] H := hP
  have hD : va_D A [(h0, .inr (4, [.ref q_1, .int 0, .int 0])), (q_1, .inl (k_2, 20, .inr (.inr (.inr (.inr g_82))))), (q_84, .inr (8, [.int 0, .int 0, .int 0, .int 0, .int 0, .int 0, .int 0, .null, .null, .null, .null, .null, .null]))] := hD
  refine lv_dup hx hb dX4_init_29 rfl ?_
  have hPc := hP.sub (ws' := [(q_84, .inr (8, [.int 0, .int 0, .int 0, .int 0, .int 0, .int 0, .int 0, .null, .null, .null, .null, .null, .null]))]) [2] rfl
  have hDc := hD.sub (ws' := [(q_84, .inr (8, [.int 0, .int 0, .int 0, .int 0, .int 0, .int 0, .int 0, .null, .null, .null, .null, .null, .null]))]) [2] (by decide) rfl
  have hKc := hK.sub (tys' := []) [] rfl
  have hFc := va_free (wc := [(q_84, .inr (8, [.int 0, .int 0, .int 0, .int 0, .int 0, .int 0, .int 0, .null, .null, .null, .null, .null, .null]))]) hD hS hA [2] rfl
  refine va_callv (va_runI (As := []) (rest := [.ref q_84, .int 5, .ref q_1]) ⟨hx, hb, hml, hown, hts⟩ (c_Standing_init l dC dI q_84  H.size) (cwI 0 hts (gU tw_218) rfl rfl rfl (hts _ tw_8) (hts _ tw_326) (hts _ tw_217) rfl (by decide +kernel) ⟨(Nat.le_of_ble_eq_true rfl), (Nat.le_of_ble_eq_true rfl)⟩) ⟨cPre.blind, cPre.use hPc hKc hDc hE⟩ rfl rfl hl.1 rfl (lv_room (Nat.le_of_ble_eq_true rfl)) dX4_init_30 ⟨(Nat.le_of_ble_eq_true rfl), (Nat.le_of_ble_eq_true rfl)⟩) hS (fun q _ h => hFc q h) hFc (fun u t H1 locs ht hvm hw hB hz1 hk1 hS => ?_)
  obtain ⟨q0_86, k0_87, q1_88, k1_89, q2_90, k2_91, q3_92, k3_93, q4_94, k4_95, q5_96, k5_97, hP1, hK1, hD1⟩ := hB
  rw [ht] at hP1
  obtain ⟨hP, hD⟩ := va_join (wr := [(h0, .inr (4, [.ref q_1, .int 0, .int 0])), (q_1, .inl (k_2, 20, .inr (.inr (.inr (.inr g_82)))))]) (w1 := [(q_84, .inr (8, [.int 0, .int (-1), .int (-1), .int 0, .int 0, .int 0, .int 0, .ref q0_86, .ref q1_88, .ref q2_90, .ref q3_92, .ref q4_94, .ref q5_96])), (q0_86, .inl (k0_87, 6, .inl (fun _ => 0))), (q1_88, .inl (k1_89, 6, .inl (fun _ => 0))), (q2_90, .inl (k2_91, 6, .inl (fun _ => 0))), (q3_92, .inl (k3_93, 4, .inl (fun _ => 0))), (q4_94, .inl (k4_95, 4, .inl (fun _ => 0))), (q5_96, .inl (k5_97, 6, .inl (fun _ => 0)))]) hP hD [2] [0, 1] rfl rfl (by decide) (by decide) hk1 hFc hP1 hD1
  have hK1 := va_K.moved hvm.symm hK1
  have hK := hK.app (hK1.sub (tys' := [(k0_87, .int), (k1_89, .int), (k2_91, .int), (k3_93, .int), (k4_95, .int), (k5_97, .int)]) [0, 1, 2, 3, 4, 5] rfl)
  have hK : va_K (dC, dI) vwCl [(k_2, .object RX8), (k0_87, .int), (k1_89, .int), (k2_91, .int), (k3_93, .int), (k4_95, .int), (k5_97, .int)] s := hK
  generalize H1 = H at hP hS ⊢
  have hP : va_P (dC, dI) vwCl [(h0, .inr (4, [.ref q_1, .int 0, .int 0])), (q_1, .inl (k_2, 20, .inr (.inr (.inr (.inr g_82))))), (q_84, .inr (8, [.int 0, .int (-1), .int (-1), .int 0, .int 0, .int 0, .int 0, .ref q0_86, .ref q1_88, .ref q2_90, .ref q3_92, .ref q4_94, .ref q5_96])), (q0_86, .inl (k0_87, 6, .inl (fun _ => 0))), (q1_88, .inl (k1_89, 6, .inl (fun _ => 0))), (q2_90, .inl (k2_91, 6, .inl (fun _ => 0))), (q3_92, .inl (k3_93, 4, .inl (fun _ => 0))), (q4_94, .inl (k4_95, 4, .inl (fun _ => 0))), (q5_96, .inl (k5_97, 6, .inl (fun _ => 0)))] H := hP
  have hD : va_D A [(h0, .inr (4, [.ref q_1, .int 0, .int 0])), (q_1, .inl (k_2, 20, .inr (.inr (.inr (.inr g_82))))), (q_84, .inr (8, [.int 0, .int (-1), .int (-1), .int 0, .int 0, .int 0, .int 0, .ref q0_86, .ref q1_88, .ref q2_90, .ref q3_92, .ref q4_94, .ref q5_96])), (q0_86, .inl (k0_87, 6, .inl (fun _ => 0))), (q1_88, .inl (k1_89, 6, .inl (fun _ => 0))), (q2_90, .inl (k2_91, 6, .inl (fun _ => 0))), (q3_92, .inl (k3_93, 4, .inl (fun _ => 0))), (q4_94, .inl (k4_95, 4, .inl (fun _ => 0))), (q5_96, .inl (k5_97, 6, .inl (fun _ => 0)))] := hD
  refine va_astq hx hb hK hP hD hS 1 0 2 8 rfl rfl rfl rfl (show vp_in 5 20 from (by decide : ¬ ((5 : Int32) < 0 ∨ 20 ≤ (5 : Int32).toNatClampNeg))) dX4_init_33 (fun H locs hP hD hS => ?_)
  have hP : va_P (dC, dI) vwCl [(h0, .inr (4, [.ref q_1, .int 0, .int 0])), (q_1, .inl (k_2, 20, .inr (.inr (.inr (.inr (va_up g_82 5 (some q_84))))))), (q_84, .inr (8, [.int 0, .int (-1), .int (-1), .int 0, .int 0, .int 0, .int 0, .ref q0_86, .ref q1_88, .ref q2_90, .ref q3_92, .ref q4_94, .ref q5_96])), (q0_86, .inl (k0_87, 6, .inl (fun _ => 0))), (q1_88, .inl (k1_89, 6, .inl (fun _ => 0))), (q2_90, .inl (k2_91, 6, .inl (fun _ => 0))), (q3_92, .inl (k3_93, 4, .inl (fun _ => 0))), (q4_94, .inl (k4_95, 4, .inl (fun _ => 0))), (q5_96, .inl (k5_97, 6, .inl (fun _ => 0)))] H := hP
  have hD : va_D A [(h0, .inr (4, [.ref q_1, .int 0, .int 0])), (q_1, .inl (k_2, 20, .inr (.inr (.inr (.inr (va_up g_82 5 (some q_84))))))), (q_84, .inr (8, [.int 0, .int (-1), .int (-1), .int 0, .int 0, .int 0, .int 0, .ref q0_86, .ref q1_88, .ref q2_90, .ref q3_92, .ref q4_94, .ref q5_96])), (q0_86, .inl (k0_87, 6, .inl (fun _ => 0))), (q1_88, .inl (k1_89, 6, .inl (fun _ => 0))), (q2_90, .inl (k2_91, 6, .inl (fun _ => 0))), (q3_92, .inl (k3_93, 4, .inl (fun _ => 0))), (q4_94, .inl (k4_95, 4, .inl (fun _ => 0))), (q5_96, .inl (k5_97, 6, .inl (fun _ => 0)))] := hD
  refine lv_iinc (v := 6) (lv' := [(1, .int 6), (0, .ref h0)]) hx hb dX4_init_34 hl (k := 0) rfl (by decide) (by decide) rfl (fun ls hl => ?_)
  refine lv_goto (tgt := 15) hx hb dX4_init_37 (by decide) ?_
  have hP := hP.sub (ws' := [(h0, .inr (4, [.ref q_1, .int 0, .int 0])), (q_1, .inl (k_2, 20, .inr (.inr (.inr (.inr (va_up g_82 5 (some q_84)))))))]) [0, 1] rfl
  have hD := hD.sub (ws' := [(h0, .inr (4, [.ref q_1, .int 0, .int 0])), (q_1, .inl (k_2, 20, .inr (.inr (.inr (.inr (va_up g_82 5 (some q_84)))))))]) [0, 1] (by decide) rfl
  have hK := hK.sub (tys' := [(k_2, .object RX8)]) [0] rfl
  generalize va_up g_82 5 (some q_84) = g_98 at hP hD
  refine lv_iload_n hx hb dX4_init_15 rfl (lv_at hl 0 rfl) ?_
  refine lv_bipush (v := 20) hx hb dX4_init_16 (by decide) ?_
  refine lv_icmp_ge (tgt := 40) hx hb dX4_init_18 (by decide) (fun c_99 => absurd c_99 (by decide)) (fun c_99 => ?_)
  refine lv_aload_n hx hb dX4_init_21 rfl (lv_at hl 1 rfl) ?_
  refine va_get (D := (dC, dI)) (ci := 4) (v := .ref q_1) (C := RX4) (T := TX4) (N := 3) hx hb hts iX4 hown hK hP 0 rfl rfl 0 (by decide) (hts _ tw_327) (fun _ h9 => h9) rfl dX4_init_22 ?_
  refine lv_iload_n hx hb dX4_init_25 rfl (lv_at hl 0 rfl) ?_
  refine va_new (ci := 8) (fs := [.int 0, .int 0, .int 0, .int 0, .int 0, .int 0, .int 0, .null, .null, .null, .null, .null, .null]) (C := RX8) (T := TX8) (N := 13) hx hb hts iX8 tyX8 tyX8_ok hown (hts _ tw_324) (hts _ tw_215) (hts _ tw_8) hK hP hD hS hA rfl (dfX8) (Nat.le_of_ble_eq_true rfl) (Nat.le_of_ble_eq_true rfl) dX4_init_26 (fun q_100 H hP hD hS => ?_)
  have hP : va_P (dC, dI) vwCl [(h0, .inr (4, [.ref q_1, .int 0, .int 0])), (q_1, .inl (k_2, 20, .inr (.inr (.inr (.inr g_98))))), (q_100, .inr (8, [.int 0, .int 0, .int 0, .int 0, .int 0, .int 0, .int 0, .null, .null, .null, .null, .null, .null]))] H := hP
  have hD : va_D A [(h0, .inr (4, [.ref q_1, .int 0, .int 0])), (q_1, .inl (k_2, 20, .inr (.inr (.inr (.inr g_98))))), (q_100, .inr (8, [.int 0, .int 0, .int 0, .int 0, .int 0, .int 0, .int 0, .null, .null, .null, .null, .null, .null]))] := hD
  refine lv_dup hx hb dX4_init_29 rfl ?_
  have hPc := hP.sub (ws' := [(q_100, .inr (8, [.int 0, .int 0, .int 0, .int 0, .int 0, .int 0, .int 0, .null, .null, .null, .null, .null, .null]))]) [2] rfl
  have hDc := hD.sub (ws' := [(q_100, .inr (8, [.int 0, .int 0, .int 0, .int 0, .int 0, .int 0, .int 0, .null, .null, .null, .null, .null, .null]))]) [2] (by decide) rfl
  have hKc := hK.sub (tys' := []) [] rfl
  have hFc := va_free (wc := [(q_100, .inr (8, [.int 0, .int 0, .int 0, .int 0, .int 0, .int 0, .int 0, .null, .null, .null, .null, .null, .null]))]) hD hS hA [2] rfl
  refine va_callv (va_runI (As := []) (rest := [.ref q_100, .int 6, .ref q_1]) ⟨hx, hb, hml, hown, hts⟩ (c_Standing_init l dC dI q_100  H.size) (cwI 0 hts (gU tw_218) rfl rfl rfl (hts _ tw_8) (hts _ tw_326) (hts _ tw_217) rfl (by decide +kernel) ⟨(Nat.le_of_ble_eq_true rfl), (Nat.le_of_ble_eq_true rfl)⟩) ⟨cPre.blind, cPre.use hPc hKc hDc hE⟩ rfl rfl hl.1 rfl (lv_room (Nat.le_of_ble_eq_true rfl)) dX4_init_30 ⟨(Nat.le_of_ble_eq_true rfl), (Nat.le_of_ble_eq_true rfl)⟩) hS (fun q _ h => hFc q h) hFc (fun u t H1 locs ht hvm hw hB hz1 hk1 hS => ?_)
  obtain ⟨q0_102, k0_103, q1_104, k1_105, q2_106, k2_107, q3_108, k3_109, q4_110, k4_111, q5_112, k5_113, hP1, hK1, hD1⟩ := hB
  rw [ht] at hP1
  obtain ⟨hP, hD⟩ := va_join (wr := [(h0, .inr (4, [.ref q_1, .int 0, .int 0])), (q_1, .inl (k_2, 20, .inr (.inr (.inr (.inr g_98)))))]) (w1 := [(q_100, .inr (8, [.int 0, .int (-1), .int (-1), .int 0, .int 0, .int 0, .int 0, .ref q0_102, .ref q1_104, .ref q2_106, .ref q3_108, .ref q4_110, .ref q5_112])), (q0_102, .inl (k0_103, 6, .inl (fun _ => 0))), (q1_104, .inl (k1_105, 6, .inl (fun _ => 0))), (q2_106, .inl (k2_107, 6, .inl (fun _ => 0))), (q3_108, .inl (k3_109, 4, .inl (fun _ => 0))), (q4_110, .inl (k4_111, 4, .inl (fun _ => 0))), (q5_112, .inl (k5_113, 6, .inl (fun _ => 0)))]) hP hD [2] [0, 1] rfl rfl (by decide) (by decide) hk1 hFc hP1 hD1
  have hK1 := va_K.moved hvm.symm hK1
  have hK := hK.app (hK1.sub (tys' := [(k0_103, .int), (k1_105, .int), (k2_107, .int), (k3_109, .int), (k4_111, .int), (k5_113, .int)]) [0, 1, 2, 3, 4, 5] rfl)
  have hK : va_K (dC, dI) vwCl [(k_2, .object RX8), (k0_103, .int), (k1_105, .int), (k2_107, .int), (k3_109, .int), (k4_111, .int), (k5_113, .int)] s := hK
  generalize H1 = H at hP hS ⊢
  have hP : va_P (dC, dI) vwCl [(h0, .inr (4, [.ref q_1, .int 0, .int 0])), (q_1, .inl (k_2, 20, .inr (.inr (.inr (.inr g_98))))), (q_100, .inr (8, [.int 0, .int (-1), .int (-1), .int 0, .int 0, .int 0, .int 0, .ref q0_102, .ref q1_104, .ref q2_106, .ref q3_108, .ref q4_110, .ref q5_112])), (q0_102, .inl (k0_103, 6, .inl (fun _ => 0))), (q1_104, .inl (k1_105, 6, .inl (fun _ => 0))), (q2_106, .inl (k2_107, 6, .inl (fun _ => 0))), (q3_108, .inl (k3_109, 4, .inl (fun _ => 0))), (q4_110, .inl (k4_111, 4, .inl (fun _ => 0))), (q5_112, .inl (k5_113, 6, .inl (fun _ => 0)))] H := hP
  have hD : va_D A [(h0, .inr (4, [.ref q_1, .int 0, .int 0])), (q_1, .inl (k_2, 20, .inr (.inr (.inr (.inr g_98))))), (q_100, .inr (8, [.int 0, .int (-1), .int (-1), .int 0, .int 0, .int 0, .int 0, .ref q0_102, .ref q1_104, .ref q2_106, .ref q3_108, .ref q4_110, .ref q5_112])), (q0_102, .inl (k0_103, 6, .inl (fun _ => 0))), (q1_104, .inl (k1_105, 6, .inl (fun _ => 0))), (q2_106, .inl (k2_107, 6, .inl (fun _ => 0))), (q3_108, .inl (k3_109, 4, .inl (fun _ => 0))), (q4_110, .inl (k4_111, 4, .inl (fun _ => 0))), (q5_112, .inl (k5_113, 6, .inl (fun _ => 0)))] := hD
  refine va_astq hx hb hK hP hD hS 1 0 2 8 rfl rfl rfl rfl (show vp_in 6 20 from (by decide : ¬ ((6 : Int32) < 0 ∨ 20 ≤ (6 : Int32).toNatClampNeg))) dX4_init_33 (fun H locs hP hD hS => ?_)
  have hP : va_P (dC, dI) vwCl [(h0, .inr (4, [.ref q_1, .int 0, .int 0])), (q_1, .inl (k_2, 20, .inr (.inr (.inr (.inr (va_up g_98 6 (some q_100))))))), (q_100, .inr (8, [.int 0, .int (-1), .int (-1), .int 0, .int 0, .int 0, .int 0, .ref q0_102, .ref q1_104, .ref q2_106, .ref q3_108, .ref q4_110, .ref q5_112])), (q0_102, .inl (k0_103, 6, .inl (fun _ => 0))), (q1_104, .inl (k1_105, 6, .inl (fun _ => 0))), (q2_106, .inl (k2_107, 6, .inl (fun _ => 0))), (q3_108, .inl (k3_109, 4, .inl (fun _ => 0))), (q4_110, .inl (k4_111, 4, .inl (fun _ => 0))), (q5_112, .inl (k5_113, 6, .inl (fun _ => 0)))] H := hP
  have hD : va_D A [(h0, .inr (4, [.ref q_1, .int 0, .int 0])), (q_1, .inl (k_2, 20, .inr (.inr (.inr (.inr (va_up g_98 6 (some q_100))))))), (q_100, .inr (8, [.int 0, .int (-1), .int (-1), .int 0, .int 0, .int 0, .int 0, .ref q0_102, .ref q1_104, .ref q2_106, .ref q3_108, .ref q4_110, .ref q5_112])), (q0_102, .inl (k0_103, 6, .inl (fun _ => 0))), (q1_104, .inl (k1_105, 6, .inl (fun _ => 0))), (q2_106, .inl (k2_107, 6, .inl (fun _ => 0))), (q3_108, .inl (k3_109, 4, .inl (fun _ => 0))), (q4_110, .inl (k4_111, 4, .inl (fun _ => 0))), (q5_112, .inl (k5_113, 6, .inl (fun _ => 0)))] := hD
  refine lv_iinc (v := 7) (lv' := [(1, .int 7), (0, .ref h0)]) hx hb dX4_init_34 hl (k := 0) rfl (by decide) (by decide) rfl (fun ls hl => ?_)
  refine lv_goto (tgt := 15) hx hb dX4_init_37 (by decide) ?_
  have hP := hP.sub (ws' := [(h0, .inr (4, [.ref q_1, .int 0, .int 0])), (q_1, .inl (k_2, 20, .inr (.inr (.inr (.inr (va_up g_98 6 (some q_100)))))))]) [0, 1] rfl
  have hD := hD.sub (ws' := [(h0, .inr (4, [.ref q_1, .int 0, .int 0])), (q_1, .inl (k_2, 20, .inr (.inr (.inr (.inr (va_up g_98 6 (some q_100)))))))]) [0, 1] (by decide) rfl
  have hK := hK.sub (tys' := [(k_2, .object RX8)]) [0] rfl
  generalize va_up g_98 6 (some q_100) = g_114 at hP hD
  refine lv_iload_n hx hb dX4_init_15 rfl (lv_at hl 0 rfl) ?_
  refine lv_bipush (v := 20) hx hb dX4_init_16 (by decide) ?_
  refine lv_icmp_ge (tgt := 40) hx hb dX4_init_18 (by decide) (fun c_115 => absurd c_115 (by decide)) (fun c_115 => ?_)
  refine lv_aload_n hx hb dX4_init_21 rfl (lv_at hl 1 rfl) ?_
  refine va_get (D := (dC, dI)) (ci := 4) (v := .ref q_1) (C := RX4) (T := TX4) (N := 3) hx hb hts iX4 hown hK hP 0 rfl rfl 0 (by decide) (hts _ tw_327) (fun _ h9 => h9) rfl dX4_init_22 ?_
  refine lv_iload_n hx hb dX4_init_25 rfl (lv_at hl 0 rfl) ?_
  refine va_new (ci := 8) (fs := [.int 0, .int 0, .int 0, .int 0, .int 0, .int 0, .int 0, .null, .null, .null, .null, .null, .null]) (C := RX8) (T := TX8) (N := 13) hx hb hts iX8 tyX8 tyX8_ok hown (hts _ tw_324) (hts _ tw_215) (hts _ tw_8) hK hP hD hS hA rfl (dfX8) (Nat.le_of_ble_eq_true rfl) (Nat.le_of_ble_eq_true rfl) dX4_init_26 (fun q_116 H hP hD hS => ?_)
  have hP : va_P (dC, dI) vwCl [(h0, .inr (4, [.ref q_1, .int 0, .int 0])), (q_1, .inl (k_2, 20, .inr (.inr (.inr (.inr g_114))))), (q_116, .inr (8, [.int 0, .int 0, .int 0, .int 0, .int 0, .int 0, .int 0, .null, .null, .null, .null, .null, .null]))] H := hP
  have hD : va_D A [(h0, .inr (4, [.ref q_1, .int 0, .int 0])), (q_1, .inl (k_2, 20, .inr (.inr (.inr (.inr g_114))))), (q_116, .inr (8, [.int 0, .int 0, .int 0, .int 0, .int 0, .int 0, .int 0, .null, .null, .null, .null, .null, .null]))] := hD
  refine lv_dup hx hb dX4_init_29 rfl ?_
  have hPc := hP.sub (ws' := [(q_116, .inr (8, [.int 0, .int 0, .int 0, .int 0, .int 0, .int 0, .int 0, .null, .null, .null, .null, .null, .null]))]) [2] rfl
  have hDc := hD.sub (ws' := [(q_116, .inr (8, [.int 0, .int 0, .int 0, .int 0, .int 0, .int 0, .int 0, .null, .null, .null, .null, .null, .null]))]) [2] (by decide) rfl
  have hKc := hK.sub (tys' := []) [] rfl
  have hFc := va_free (wc := [(q_116, .inr (8, [.int 0, .int 0, .int 0, .int 0, .int 0, .int 0, .int 0, .null, .null, .null, .null, .null, .null]))]) hD hS hA [2] rfl
  refine va_callv (va_runI (As := []) (rest := [.ref q_116, .int 7, .ref q_1]) ⟨hx, hb, hml, hown, hts⟩ (c_Standing_init l dC dI q_116  H.size) (cwI 0 hts (gU tw_218) rfl rfl rfl (hts _ tw_8) (hts _ tw_326) (hts _ tw_217) rfl (by decide +kernel) ⟨(Nat.le_of_ble_eq_true rfl), (Nat.le_of_ble_eq_true rfl)⟩) ⟨cPre.blind, cPre.use hPc hKc hDc hE⟩ rfl rfl hl.1 rfl (lv_room (Nat.le_of_ble_eq_true rfl)) dX4_init_30 ⟨(Nat.le_of_ble_eq_true rfl), (Nat.le_of_ble_eq_true rfl)⟩) hS (fun q _ h => hFc q h) hFc (fun u t H1 locs ht hvm hw hB hz1 hk1 hS => ?_)
  obtain ⟨q0_118, k0_119, q1_120, k1_121, q2_122, k2_123, q3_124, k3_125, q4_126, k4_127, q5_128, k5_129, hP1, hK1, hD1⟩ := hB
  rw [ht] at hP1
  obtain ⟨hP, hD⟩ := va_join (wr := [(h0, .inr (4, [.ref q_1, .int 0, .int 0])), (q_1, .inl (k_2, 20, .inr (.inr (.inr (.inr g_114)))))]) (w1 := [(q_116, .inr (8, [.int 0, .int (-1), .int (-1), .int 0, .int 0, .int 0, .int 0, .ref q0_118, .ref q1_120, .ref q2_122, .ref q3_124, .ref q4_126, .ref q5_128])), (q0_118, .inl (k0_119, 6, .inl (fun _ => 0))), (q1_120, .inl (k1_121, 6, .inl (fun _ => 0))), (q2_122, .inl (k2_123, 6, .inl (fun _ => 0))), (q3_124, .inl (k3_125, 4, .inl (fun _ => 0))), (q4_126, .inl (k4_127, 4, .inl (fun _ => 0))), (q5_128, .inl (k5_129, 6, .inl (fun _ => 0)))]) hP hD [2] [0, 1] rfl rfl (by decide) (by decide) hk1 hFc hP1 hD1
  have hK1 := va_K.moved hvm.symm hK1
  have hK := hK.app (hK1.sub (tys' := [(k0_119, .int), (k1_121, .int), (k2_123, .int), (k3_125, .int), (k4_127, .int), (k5_129, .int)]) [0, 1, 2, 3, 4, 5] rfl)
  have hK : va_K (dC, dI) vwCl [(k_2, .object RX8), (k0_119, .int), (k1_121, .int), (k2_123, .int), (k3_125, .int), (k4_127, .int), (k5_129, .int)] s := hK
  generalize H1 = H at hP hS ⊢
  have hP : va_P (dC, dI) vwCl [(h0, .inr (4, [.ref q_1, .int 0, .int 0])), (q_1, .inl (k_2, 20, .inr (.inr (.inr (.inr g_114))))), (q_116, .inr (8, [.int 0, .int (-1), .int (-1), .int 0, .int 0, .int 0, .int 0, .ref q0_118, .ref q1_120, .ref q2_122, .ref q3_124, .ref q4_126, .ref q5_128])), (q0_118, .inl (k0_119, 6, .inl (fun _ => 0))), (q1_120, .inl (k1_121, 6, .inl (fun _ => 0))), (q2_122, .inl (k2_123, 6, .inl (fun _ => 0))), (q3_124, .inl (k3_125, 4, .inl (fun _ => 0))), (q4_126, .inl (k4_127, 4, .inl (fun _ => 0))), (q5_128, .inl (k5_129, 6, .inl (fun _ => 0)))] H := hP
  have hD : va_D A [(h0, .inr (4, [.ref q_1, .int 0, .int 0])), (q_1, .inl (k_2, 20, .inr (.inr (.inr (.inr g_114))))), (q_116, .inr (8, [.int 0, .int (-1), .int (-1), .int 0, .int 0, .int 0, .int 0, .ref q0_118, .ref q1_120, .ref q2_122, .ref q3_124, .ref q4_126, .ref q5_128])), (q0_118, .inl (k0_119, 6, .inl (fun _ => 0))), (q1_120, .inl (k1_121, 6, .inl (fun _ => 0))), (q2_122, .inl (k2_123, 6, .inl (fun _ => 0))), (q3_124, .inl (k3_125, 4, .inl (fun _ => 0))), (q4_126, .inl (k4_127, 4, .inl (fun _ => 0))), (q5_128, .inl (k5_129, 6, .inl (fun _ => 0)))] := hD
  refine va_astq hx hb hK hP hD hS 1 0 2 8 rfl rfl rfl rfl (show vp_in 7 20 from (by decide : ¬ ((7 : Int32) < 0 ∨ 20 ≤ (7 : Int32).toNatClampNeg))) dX4_init_33 (fun H locs hP hD hS => ?_)
  have hP : va_P (dC, dI) vwCl [(h0, .inr (4, [.ref q_1, .int 0, .int 0])), (q_1, .inl (k_2, 20, .inr (.inr (.inr (.inr (va_up g_114 7 (some q_116))))))), (q_116, .inr (8, [.int 0, .int (-1), .int (-1), .int 0, .int 0, .int 0, .int 0, .ref q0_118, .ref q1_120, .ref q2_122, .ref q3_124, .ref q4_126, .ref q5_128])), (q0_118, .inl (k0_119, 6, .inl (fun _ => 0))), (q1_120, .inl (k1_121, 6, .inl (fun _ => 0))), (q2_122, .inl (k2_123, 6, .inl (fun _ => 0))), (q3_124, .inl (k3_125, 4, .inl (fun _ => 0))), (q4_126, .inl (k4_127, 4, .inl (fun _ => 0))), (q5_128, .inl (k5_129, 6, .inl (fun _ => 0)))] H := hP
  have hD : va_D A [(h0, .inr (4, [.ref q_1, .int 0, .int 0])), (q_1, .inl (k_2, 20, .inr (.inr (.inr (.inr (va_up g_114 7 (some q_116))))))), (q_116, .inr (8, [.int 0, .int (-1), .int (-1), .int 0, .int 0, .int 0, .int 0, .ref q0_118, .ref q1_120, .ref q2_122, .ref q3_124, .ref q4_126, .ref q5_128])), (q0_118, .inl (k0_119, 6, .inl (fun _ => 0))), (q1_120, .inl (k1_121, 6, .inl (fun _ => 0))), (q2_122, .inl (k2_123, 6, .inl (fun _ => 0))), (q3_124, .inl (k3_125, 4, .inl (fun _ => 0))), (q4_126, .inl (k4_127, 4, .inl (fun _ => 0))), (q5_128, .inl (k5_129, 6, .inl (fun _ => 0)))] := hD
  refine lv_iinc (v := 8) (lv' := [(1, .int 8), (0, .ref h0)]) hx hb dX4_init_34 hl (k := 0) rfl (by decide) (by decide) rfl (fun ls hl => ?_)
  refine lv_goto (tgt := 15) hx hb dX4_init_37 (by decide) ?_
  have hP := hP.sub (ws' := [(h0, .inr (4, [.ref q_1, .int 0, .int 0])), (q_1, .inl (k_2, 20, .inr (.inr (.inr (.inr (va_up g_114 7 (some q_116)))))))]) [0, 1] rfl
  have hD := hD.sub (ws' := [(h0, .inr (4, [.ref q_1, .int 0, .int 0])), (q_1, .inl (k_2, 20, .inr (.inr (.inr (.inr (va_up g_114 7 (some q_116)))))))]) [0, 1] (by decide) rfl
  have hK := hK.sub (tys' := [(k_2, .object RX8)]) [0] rfl
  generalize va_up g_114 7 (some q_116) = g_130 at hP hD
  refine lv_iload_n hx hb dX4_init_15 rfl (lv_at hl 0 rfl) ?_
  refine lv_bipush (v := 20) hx hb dX4_init_16 (by decide) ?_
  refine lv_icmp_ge (tgt := 40) hx hb dX4_init_18 (by decide) (fun c_131 => absurd c_131 (by decide)) (fun c_131 => ?_)
  refine lv_aload_n hx hb dX4_init_21 rfl (lv_at hl 1 rfl) ?_
  refine va_get (D := (dC, dI)) (ci := 4) (v := .ref q_1) (C := RX4) (T := TX4) (N := 3) hx hb hts iX4 hown hK hP 0 rfl rfl 0 (by decide) (hts _ tw_327) (fun _ h9 => h9) rfl dX4_init_22 ?_
  refine lv_iload_n hx hb dX4_init_25 rfl (lv_at hl 0 rfl) ?_
  refine va_new (ci := 8) (fs := [.int 0, .int 0, .int 0, .int 0, .int 0, .int 0, .int 0, .null, .null, .null, .null, .null, .null]) (C := RX8) (T := TX8) (N := 13) hx hb hts iX8 tyX8 tyX8_ok hown (hts _ tw_324) (hts _ tw_215) (hts _ tw_8) hK hP hD hS hA rfl (dfX8) (Nat.le_of_ble_eq_true rfl) (Nat.le_of_ble_eq_true rfl) dX4_init_26 (fun q_132 H hP hD hS => ?_)
  have hP : va_P (dC, dI) vwCl [(h0, .inr (4, [.ref q_1, .int 0, .int 0])), (q_1, .inl (k_2, 20, .inr (.inr (.inr (.inr g_130))))), (q_132, .inr (8, [.int 0, .int 0, .int 0, .int 0, .int 0, .int 0, .int 0, .null, .null, .null, .null, .null, .null]))] H := hP
  have hD : va_D A [(h0, .inr (4, [.ref q_1, .int 0, .int 0])), (q_1, .inl (k_2, 20, .inr (.inr (.inr (.inr g_130))))), (q_132, .inr (8, [.int 0, .int 0, .int 0, .int 0, .int 0, .int 0, .int 0, .null, .null, .null, .null, .null, .null]))] := hD
  refine lv_dup hx hb dX4_init_29 rfl ?_
  have hPc := hP.sub (ws' := [(q_132, .inr (8, [.int 0, .int 0, .int 0, .int 0, .int 0, .int 0, .int 0, .null, .null, .null, .null, .null, .null]))]) [2] rfl
  have hDc := hD.sub (ws' := [(q_132, .inr (8, [.int 0, .int 0, .int 0, .int 0, .int 0, .int 0, .int 0, .null, .null, .null, .null, .null, .null]))]) [2] (by decide) rfl
  have hKc := hK.sub (tys' := []) [] rfl
  have hFc := va_free (wc := [(q_132, .inr (8, [.int 0, .int 0, .int 0, .int 0, .int 0, .int 0, .int 0, .null, .null, .null, .null, .null, .null]))]) hD hS hA [2] rfl
  refine va_callv (va_runI (As := []) (rest := [.ref q_132, .int 8, .ref q_1]) ⟨hx, hb, hml, hown, hts⟩ (c_Standing_init l dC dI q_132  H.size) (cwI 0 hts (gU tw_218) rfl rfl rfl (hts _ tw_8) (hts _ tw_326) (hts _ tw_217) rfl (by decide +kernel) ⟨(Nat.le_of_ble_eq_true rfl), (Nat.le_of_ble_eq_true rfl)⟩) ⟨cPre.blind, cPre.use hPc hKc hDc hE⟩ rfl rfl hl.1 rfl (lv_room (Nat.le_of_ble_eq_true rfl)) dX4_init_30 ⟨(Nat.le_of_ble_eq_true rfl), (Nat.le_of_ble_eq_true rfl)⟩) hS (fun q _ h => hFc q h) hFc (fun u t H1 locs ht hvm hw hB hz1 hk1 hS => ?_)
  obtain ⟨q0_134, k0_135, q1_136, k1_137, q2_138, k2_139, q3_140, k3_141, q4_142, k4_143, q5_144, k5_145, hP1, hK1, hD1⟩ := hB
  rw [ht] at hP1
  obtain ⟨hP, hD⟩ := va_join (wr := [(h0, .inr (4, [.ref q_1, .int 0, .int 0])), (q_1, .inl (k_2, 20, .inr (.inr (.inr (.inr g_130)))))]) (w1 := [(q_132, .inr (8, [.int 0, .int (-1), .int (-1), .int 0, .int 0, .int 0, .int 0, .ref q0_134, .ref q1_136, .ref q2_138, .ref q3_140, .ref q4_142, .ref q5_144])), (q0_134, .inl (k0_135, 6, .inl (fun _ => 0))), (q1_136, .inl (k1_137, 6, .inl (fun _ => 0))), (q2_138, .inl (k2_139, 6, .inl (fun _ => 0))), (q3_140, .inl (k3_141, 4, .inl (fun _ => 0))), (q4_142, .inl (k4_143, 4, .inl (fun _ => 0))), (q5_144, .inl (k5_145, 6, .inl (fun _ => 0)))]) hP hD [2] [0, 1] rfl rfl (by decide) (by decide) hk1 hFc hP1 hD1
  have hK1 := va_K.moved hvm.symm hK1
  have hK := hK.app (hK1.sub (tys' := [(k0_135, .int), (k1_137, .int), (k2_139, .int), (k3_141, .int), (k4_143, .int), (k5_145, .int)]) [0, 1, 2, 3, 4, 5] rfl)
  have hK : va_K (dC, dI) vwCl [(k_2, .object RX8), (k0_135, .int), (k1_137, .int), (k2_139, .int), (k3_141, .int), (k4_143, .int), (k5_145, .int)] s := hK
  generalize H1 = H at hP hS ⊢
  have hP : va_P (dC, dI) vwCl [(h0, .inr (4, [.ref q_1, .int 0, .int 0])), (q_1, .inl (k_2, 20, .inr (.inr (.inr (.inr g_130))))), (q_132, .inr (8, [.int 0, .int (-1), .int (-1), .int 0, .int 0, .int 0, .int 0, .ref q0_134, .ref q1_136, .ref q2_138, .ref q3_140, .ref q4_142, .ref q5_144])), (q0_134, .inl (k0_135, 6, .inl (fun _ => 0))), (q1_136, .inl (k1_137, 6, .inl (fun _ => 0))), (q2_138, .inl (k2_139, 6, .inl (fun _ => 0))), (q3_140, .inl (k3_141, 4, .inl (fun _ => 0))), (q4_142, .inl (k4_143, 4, .inl (fun _ => 0))), (q5_144, .inl (k5_145, 6, .inl (fun _ => 0)))] H := hP
  have hD : va_D A [(h0, .inr (4, [.ref q_1, .int 0, .int 0])), (q_1, .inl (k_2, 20, .inr (.inr (.inr (.inr g_130))))), (q_132, .inr (8, [.int 0, .int (-1), .int (-1), .int 0, .int 0, .int 0, .int 0, .ref q0_134, .ref q1_136, .ref q2_138, .ref q3_140, .ref q4_142, .ref q5_144])), (q0_134, .inl (k0_135, 6, .inl (fun _ => 0))), (q1_136, .inl (k1_137, 6, .inl (fun _ => 0))), (q2_138, .inl (k2_139, 6, .inl (fun _ => 0))), (q3_140, .inl (k3_141, 4, .inl (fun _ => 0))), (q4_142, .inl (k4_143, 4, .inl (fun _ => 0))), (q5_144, .inl (k5_145, 6, .inl (fun _ => 0)))] := hD
  refine va_astq hx hb hK hP hD hS 1 0 2 8 rfl rfl rfl rfl (show vp_in 8 20 from (by decide : ¬ ((8 : Int32) < 0 ∨ 20 ≤ (8 : Int32).toNatClampNeg))) dX4_init_33 (fun H locs hP hD hS => ?_)
  have hP : va_P (dC, dI) vwCl [(h0, .inr (4, [.ref q_1, .int 0, .int 0])), (q_1, .inl (k_2, 20, .inr (.inr (.inr (.inr (va_up g_130 8 (some q_132))))))), (q_132, .inr (8, [.int 0, .int (-1), .int (-1), .int 0, .int 0, .int 0, .int 0, .ref q0_134, .ref q1_136, .ref q2_138, .ref q3_140, .ref q4_142, .ref q5_144])), (q0_134, .inl (k0_135, 6, .inl (fun _ => 0))), (q1_136, .inl (k1_137, 6, .inl (fun _ => 0))), (q2_138, .inl (k2_139, 6, .inl (fun _ => 0))), (q3_140, .inl (k3_141, 4, .inl (fun _ => 0))), (q4_142, .inl (k4_143, 4, .inl (fun _ => 0))), (q5_144, .inl (k5_145, 6, .inl (fun _ => 0)))] H := hP
  have hD : va_D A [(h0, .inr (4, [.ref q_1, .int 0, .int 0])), (q_1, .inl (k_2, 20, .inr (.inr (.inr (.inr (va_up g_130 8 (some q_132))))))), (q_132, .inr (8, [.int 0, .int (-1), .int (-1), .int 0, .int 0, .int 0, .int 0, .ref q0_134, .ref q1_136, .ref q2_138, .ref q3_140, .ref q4_142, .ref q5_144])), (q0_134, .inl (k0_135, 6, .inl (fun _ => 0))), (q1_136, .inl (k1_137, 6, .inl (fun _ => 0))), (q2_138, .inl (k2_139, 6, .inl (fun _ => 0))), (q3_140, .inl (k3_141, 4, .inl (fun _ => 0))), (q4_142, .inl (k4_143, 4, .inl (fun _ => 0))), (q5_144, .inl (k5_145, 6, .inl (fun _ => 0)))] := hD
  refine lv_iinc (v := 9) (lv' := [(1, .int 9), (0, .ref h0)]) hx hb dX4_init_34 hl (k := 0) rfl (by decide) (by decide) rfl (fun ls hl => ?_)
  refine lv_goto (tgt := 15) hx hb dX4_init_37 (by decide) ?_
  have hP := hP.sub (ws' := [(h0, .inr (4, [.ref q_1, .int 0, .int 0])), (q_1, .inl (k_2, 20, .inr (.inr (.inr (.inr (va_up g_130 8 (some q_132)))))))]) [0, 1] rfl
  have hD := hD.sub (ws' := [(h0, .inr (4, [.ref q_1, .int 0, .int 0])), (q_1, .inl (k_2, 20, .inr (.inr (.inr (.inr (va_up g_130 8 (some q_132)))))))]) [0, 1] (by decide) rfl
  have hK := hK.sub (tys' := [(k_2, .object RX8)]) [0] rfl
  generalize va_up g_130 8 (some q_132) = g_146 at hP hD
  refine lv_iload_n hx hb dX4_init_15 rfl (lv_at hl 0 rfl) ?_
  refine lv_bipush (v := 20) hx hb dX4_init_16 (by decide) ?_
  refine lv_icmp_ge (tgt := 40) hx hb dX4_init_18 (by decide) (fun c_147 => absurd c_147 (by decide)) (fun c_147 => ?_)
  refine lv_aload_n hx hb dX4_init_21 rfl (lv_at hl 1 rfl) ?_
  refine va_get (D := (dC, dI)) (ci := 4) (v := .ref q_1) (C := RX4) (T := TX4) (N := 3) hx hb hts iX4 hown hK hP 0 rfl rfl 0 (by decide) (hts _ tw_327) (fun _ h9 => h9) rfl dX4_init_22 ?_
  refine lv_iload_n hx hb dX4_init_25 rfl (lv_at hl 0 rfl) ?_
  refine va_new (ci := 8) (fs := [.int 0, .int 0, .int 0, .int 0, .int 0, .int 0, .int 0, .null, .null, .null, .null, .null, .null]) (C := RX8) (T := TX8) (N := 13) hx hb hts iX8 tyX8 tyX8_ok hown (hts _ tw_324) (hts _ tw_215) (hts _ tw_8) hK hP hD hS hA rfl (dfX8) (Nat.le_of_ble_eq_true rfl) (Nat.le_of_ble_eq_true rfl) dX4_init_26 (fun q_148 H hP hD hS => ?_)
  have hP : va_P (dC, dI) vwCl [(h0, .inr (4, [.ref q_1, .int 0, .int 0])), (q_1, .inl (k_2, 20, .inr (.inr (.inr (.inr g_146))))), (q_148, .inr (8, [.int 0, .int 0, .int 0, .int 0, .int 0, .int 0, .int 0, .null, .null, .null, .null, .null, .null]))] H := hP
  have hD : va_D A [(h0, .inr (4, [.ref q_1, .int 0, .int 0])), (q_1, .inl (k_2, 20, .inr (.inr (.inr (.inr g_146))))), (q_148, .inr (8, [.int 0, .int 0, .int 0, .int 0, .int 0, .int 0, .int 0, .null, .null, .null, .null, .null, .null]))] := hD
  refine lv_dup hx hb dX4_init_29 rfl ?_
  have hPc := hP.sub (ws' := [(q_148, .inr (8, [.int 0, .int 0, .int 0, .int 0, .int 0, .int 0, .int 0, .null, .null, .null, .null, .null, .null]))]) [2] rfl
  have hDc := hD.sub (ws' := [(q_148, .inr (8, [.int 0, .int 0, .int 0, .int 0, .int 0, .int 0, .int 0, .null, .null, .null, .null, .null, .null]))]) [2] (by decide) rfl
  have hKc := hK.sub (tys' := []) [] rfl
  have hFc := va_free (wc := [(q_148, .inr (8, [.int 0, .int 0, .int 0, .int 0, .int 0, .int 0, .int 0, .null, .null, .null, .null, .null, .null]))]) hD hS hA [2] rfl
  refine va_callv (va_runI (As := []) (rest := [.ref q_148, .int 9, .ref q_1]) ⟨hx, hb, hml, hown, hts⟩ (c_Standing_init l dC dI q_148  H.size) (cwI 0 hts (gU tw_218) rfl rfl rfl (hts _ tw_8) (hts _ tw_326) (hts _ tw_217) rfl (by decide +kernel) ⟨(Nat.le_of_ble_eq_true rfl), (Nat.le_of_ble_eq_true rfl)⟩) ⟨cPre.blind, cPre.use hPc hKc hDc hE⟩ rfl rfl hl.1 rfl (lv_room (Nat.le_of_ble_eq_true rfl)) dX4_init_30 ⟨(Nat.le_of_ble_eq_true rfl), (Nat.le_of_ble_eq_true rfl)⟩) hS (fun q _ h => hFc q h) hFc (fun u t H1 locs ht hvm hw hB hz1 hk1 hS => ?_)
  obtain ⟨q0_150, k0_151, q1_152, k1_153, q2_154, k2_155, q3_156, k3_157, q4_158, k4_159, q5_160, k5_161, hP1, hK1, hD1⟩ := hB
  rw [ht] at hP1
  obtain ⟨hP, hD⟩ := va_join (wr := [(h0, .inr (4, [.ref q_1, .int 0, .int 0])), (q_1, .inl (k_2, 20, .inr (.inr (.inr (.inr g_146)))))]) (w1 := [(q_148, .inr (8, [.int 0, .int (-1), .int (-1), .int 0, .int 0, .int 0, .int 0, .ref q0_150, .ref q1_152, .ref q2_154, .ref q3_156, .ref q4_158, .ref q5_160])), (q0_150, .inl (k0_151, 6, .inl (fun _ => 0))), (q1_152, .inl (k1_153, 6, .inl (fun _ => 0))), (q2_154, .inl (k2_155, 6, .inl (fun _ => 0))), (q3_156, .inl (k3_157, 4, .inl (fun _ => 0))), (q4_158, .inl (k4_159, 4, .inl (fun _ => 0))), (q5_160, .inl (k5_161, 6, .inl (fun _ => 0)))]) hP hD [2] [0, 1] rfl rfl (by decide) (by decide) hk1 hFc hP1 hD1
  have hK1 := va_K.moved hvm.symm hK1
  have hK := hK.app (hK1.sub (tys' := [(k0_151, .int), (k1_153, .int), (k2_155, .int), (k3_157, .int), (k4_159, .int), (k5_161, .int)]) [0, 1, 2, 3, 4, 5] rfl)
  have hK : va_K (dC, dI) vwCl [(k_2, .object RX8), (k0_151, .int), (k1_153, .int), (k2_155, .int), (k3_157, .int), (k4_159, .int), (k5_161, .int)] s := hK
  generalize H1 = H at hP hS ⊢
  have hP : va_P (dC, dI) vwCl [(h0, .inr (4, [.ref q_1, .int 0, .int 0])), (q_1, .inl (k_2, 20, .inr (.inr (.inr (.inr g_146))))), (q_148, .inr (8, [.int 0, .int (-1), .int (-1), .int 0, .int 0, .int 0, .int 0, .ref q0_150, .ref q1_152, .ref q2_154, .ref q3_156, .ref q4_158, .ref q5_160])), (q0_150, .inl (k0_151, 6, .inl (fun _ => 0))), (q1_152, .inl (k1_153, 6, .inl (fun _ => 0))), (q2_154, .inl (k2_155, 6, .inl (fun _ => 0))), (q3_156, .inl (k3_157, 4, .inl (fun _ => 0))), (q4_158, .inl (k4_159, 4, .inl (fun _ => 0))), (q5_160, .inl (k5_161, 6, .inl (fun _ => 0)))] H := hP
  have hD : va_D A [(h0, .inr (4, [.ref q_1, .int 0, .int 0])), (q_1, .inl (k_2, 20, .inr (.inr (.inr (.inr g_146))))), (q_148, .inr (8, [.int 0, .int (-1), .int (-1), .int 0, .int 0, .int 0, .int 0, .ref q0_150, .ref q1_152, .ref q2_154, .ref q3_156, .ref q4_158, .ref q5_160])), (q0_150, .inl (k0_151, 6, .inl (fun _ => 0))), (q1_152, .inl (k1_153, 6, .inl (fun _ => 0))), (q2_154, .inl (k2_155, 6, .inl (fun _ => 0))), (q3_156, .inl (k3_157, 4, .inl (fun _ => 0))), (q4_158, .inl (k4_159, 4, .inl (fun _ => 0))), (q5_160, .inl (k5_161, 6, .inl (fun _ => 0)))] := hD
  refine va_astq hx hb hK hP hD hS 1 0 2 8 rfl rfl rfl rfl (show vp_in 9 20 from (by decide : ¬ ((9 : Int32) < 0 ∨ 20 ≤ (9 : Int32).toNatClampNeg))) dX4_init_33 (fun H locs hP hD hS => ?_)
  have hP : va_P (dC, dI) vwCl [(h0, .inr (4, [.ref q_1, .int 0, .int 0])), (q_1, .inl (k_2, 20, .inr (.inr (.inr (.inr (va_up g_146 9 (some q_148))))))), (q_148, .inr (8, [.int 0, .int (-1), .int (-1), .int 0, .int 0, .int 0, .int 0, .ref q0_150, .ref q1_152, .ref q2_154, .ref q3_156, .ref q4_158, .ref q5_160])), (q0_150, .inl (k0_151, 6, .inl (fun _ => 0))), (q1_152, .inl (k1_153, 6, .inl (fun _ => 0))), (q2_154, .inl (k2_155, 6, .inl (fun _ => 0))), (q3_156, .inl (k3_157, 4, .inl (fun _ => 0))), (q4_158, .inl (k4_159, 4, .inl (fun _ => 0))), (q5_160, .inl (k5_161, 6, .inl (fun _ => 0)))] H := hP
  have hD : va_D A [(h0, .inr (4, [.ref q_1, .int 0, .int 0])), (q_1, .inl (k_2, 20, .inr (.inr (.inr (.inr (va_up g_146 9 (some q_148))))))), (q_148, .inr (8, [.int 0, .int (-1), .int (-1), .int 0, .int 0, .int 0, .int 0, .ref q0_150, .ref q1_152, .ref q2_154, .ref q3_156, .ref q4_158, .ref q5_160])), (q0_150, .inl (k0_151, 6, .inl (fun _ => 0))), (q1_152, .inl (k1_153, 6, .inl (fun _ => 0))), (q2_154, .inl (k2_155, 6, .inl (fun _ => 0))), (q3_156, .inl (k3_157, 4, .inl (fun _ => 0))), (q4_158, .inl (k4_159, 4, .inl (fun _ => 0))), (q5_160, .inl (k5_161, 6, .inl (fun _ => 0)))] := hD
  refine lv_iinc (v := 10) (lv' := [(1, .int 10), (0, .ref h0)]) hx hb dX4_init_34 hl (k := 0) rfl (by decide) (by decide) rfl (fun ls hl => ?_)
  refine lv_goto (tgt := 15) hx hb dX4_init_37 (by decide) ?_
  have hP := hP.sub (ws' := [(h0, .inr (4, [.ref q_1, .int 0, .int 0])), (q_1, .inl (k_2, 20, .inr (.inr (.inr (.inr (va_up g_146 9 (some q_148)))))))]) [0, 1] rfl
  have hD := hD.sub (ws' := [(h0, .inr (4, [.ref q_1, .int 0, .int 0])), (q_1, .inl (k_2, 20, .inr (.inr (.inr (.inr (va_up g_146 9 (some q_148)))))))]) [0, 1] (by decide) rfl
  have hK := hK.sub (tys' := [(k_2, .object RX8)]) [0] rfl
  generalize va_up g_146 9 (some q_148) = g_162 at hP hD
  refine lv_iload_n hx hb dX4_init_15 rfl (lv_at hl 0 rfl) ?_
  refine lv_bipush (v := 20) hx hb dX4_init_16 (by decide) ?_
  refine lv_icmp_ge (tgt := 40) hx hb dX4_init_18 (by decide) (fun c_163 => absurd c_163 (by decide)) (fun c_163 => ?_)
  refine lv_aload_n hx hb dX4_init_21 rfl (lv_at hl 1 rfl) ?_
  refine va_get (D := (dC, dI)) (ci := 4) (v := .ref q_1) (C := RX4) (T := TX4) (N := 3) hx hb hts iX4 hown hK hP 0 rfl rfl 0 (by decide) (hts _ tw_327) (fun _ h9 => h9) rfl dX4_init_22 ?_
  refine lv_iload_n hx hb dX4_init_25 rfl (lv_at hl 0 rfl) ?_
  refine va_new (ci := 8) (fs := [.int 0, .int 0, .int 0, .int 0, .int 0, .int 0, .int 0, .null, .null, .null, .null, .null, .null]) (C := RX8) (T := TX8) (N := 13) hx hb hts iX8 tyX8 tyX8_ok hown (hts _ tw_324) (hts _ tw_215) (hts _ tw_8) hK hP hD hS hA rfl (dfX8) (Nat.le_of_ble_eq_true rfl) (Nat.le_of_ble_eq_true rfl) dX4_init_26 (fun q_164 H hP hD hS => ?_)
  have hP : va_P (dC, dI) vwCl [(h0, .inr (4, [.ref q_1, .int 0, .int 0])), (q_1, .inl (k_2, 20, .inr (.inr (.inr (.inr g_162))))), (q_164, .inr (8, [.int 0, .int 0, .int 0, .int 0, .int 0, .int 0, .int 0, .null, .null, .null, .null, .null, .null]))] H := hP
  have hD : va_D A [(h0, .inr (4, [.ref q_1, .int 0, .int 0])), (q_1, .inl (k_2, 20, .inr (.inr (.inr (.inr g_162))))), (q_164, .inr (8, [.int 0, .int 0, .int 0, .int 0, .int 0, .int 0, .int 0, .null, .null, .null, .null, .null, .null]))] := hD
  refine lv_dup hx hb dX4_init_29 rfl ?_
  have hPc := hP.sub (ws' := [(q_164, .inr (8, [.int 0, .int 0, .int 0, .int 0, .int 0, .int 0, .int 0, .null, .null, .null, .null, .null, .null]))]) [2] rfl
  have hDc := hD.sub (ws' := [(q_164, .inr (8, [.int 0, .int 0, .int 0, .int 0, .int 0, .int 0, .int 0, .null, .null, .null, .null, .null, .null]))]) [2] (by decide) rfl
  have hKc := hK.sub (tys' := []) [] rfl
  have hFc := va_free (wc := [(q_164, .inr (8, [.int 0, .int 0, .int 0, .int 0, .int 0, .int 0, .int 0, .null, .null, .null, .null, .null, .null]))]) hD hS hA [2] rfl
  refine va_callv (va_runI (As := []) (rest := [.ref q_164, .int 10, .ref q_1]) ⟨hx, hb, hml, hown, hts⟩ (c_Standing_init l dC dI q_164  H.size) (cwI 0 hts (gU tw_218) rfl rfl rfl (hts _ tw_8) (hts _ tw_326) (hts _ tw_217) rfl (by decide +kernel) ⟨(Nat.le_of_ble_eq_true rfl), (Nat.le_of_ble_eq_true rfl)⟩) ⟨cPre.blind, cPre.use hPc hKc hDc hE⟩ rfl rfl hl.1 rfl (lv_room (Nat.le_of_ble_eq_true rfl)) dX4_init_30 ⟨(Nat.le_of_ble_eq_true rfl), (Nat.le_of_ble_eq_true rfl)⟩) hS (fun q _ h => hFc q h) hFc (fun u t H1 locs ht hvm hw hB hz1 hk1 hS => ?_)
  obtain ⟨q0_166, k0_167, q1_168, k1_169, q2_170, k2_171, q3_172, k3_173, q4_174, k4_175, q5_176, k5_177, hP1, hK1, hD1⟩ := hB
  rw [ht] at hP1
  obtain ⟨hP, hD⟩ := va_join (wr := [(h0, .inr (4, [.ref q_1, .int 0, .int 0])), (q_1, .inl (k_2, 20, .inr (.inr (.inr (.inr g_162)))))]) (w1 := [(q_164, .inr (8, [.int 0, .int (-1), .int (-1), .int 0, .int 0, .int 0, .int 0, .ref q0_166, .ref q1_168, .ref q2_170, .ref q3_172, .ref q4_174, .ref q5_176])), (q0_166, .inl (k0_167, 6, .inl (fun _ => 0))), (q1_168, .inl (k1_169, 6, .inl (fun _ => 0))), (q2_170, .inl (k2_171, 6, .inl (fun _ => 0))), (q3_172, .inl (k3_173, 4, .inl (fun _ => 0))), (q4_174, .inl (k4_175, 4, .inl (fun _ => 0))), (q5_176, .inl (k5_177, 6, .inl (fun _ => 0)))]) hP hD [2] [0, 1] rfl rfl (by decide) (by decide) hk1 hFc hP1 hD1
  have hK1 := va_K.moved hvm.symm hK1
  have hK := hK.app (hK1.sub (tys' := [(k0_167, .int), (k1_169, .int), (k2_171, .int), (k3_173, .int), (k4_175, .int), (k5_177, .int)]) [0, 1, 2, 3, 4, 5] rfl)
  have hK : va_K (dC, dI) vwCl [(k_2, .object RX8), (k0_167, .int), (k1_169, .int), (k2_171, .int), (k3_173, .int), (k4_175, .int), (k5_177, .int)] s := hK
  generalize H1 = H at hP hS ⊢
  have hP : va_P (dC, dI) vwCl [(h0, .inr (4, [.ref q_1, .int 0, .int 0])), (q_1, .inl (k_2, 20, .inr (.inr (.inr (.inr g_162))))), (q_164, .inr (8, [.int 0, .int (-1), .int (-1), .int 0, .int 0, .int 0, .int 0, .ref q0_166, .ref q1_168, .ref q2_170, .ref q3_172, .ref q4_174, .ref q5_176])), (q0_166, .inl (k0_167, 6, .inl (fun _ => 0))), (q1_168, .inl (k1_169, 6, .inl (fun _ => 0))), (q2_170, .inl (k2_171, 6, .inl (fun _ => 0))), (q3_172, .inl (k3_173, 4, .inl (fun _ => 0))), (q4_174, .inl (k4_175, 4, .inl (fun _ => 0))), (q5_176, .inl (k5_177, 6, .inl (fun _ => 0)))] H := hP
  have hD : va_D A [(h0, .inr (4, [.ref q_1, .int 0, .int 0])), (q_1, .inl (k_2, 20, .inr (.inr (.inr (.inr g_162))))), (q_164, .inr (8, [.int 0, .int (-1), .int (-1), .int 0, .int 0, .int 0, .int 0, .ref q0_166, .ref q1_168, .ref q2_170, .ref q3_172, .ref q4_174, .ref q5_176])), (q0_166, .inl (k0_167, 6, .inl (fun _ => 0))), (q1_168, .inl (k1_169, 6, .inl (fun _ => 0))), (q2_170, .inl (k2_171, 6, .inl (fun _ => 0))), (q3_172, .inl (k3_173, 4, .inl (fun _ => 0))), (q4_174, .inl (k4_175, 4, .inl (fun _ => 0))), (q5_176, .inl (k5_177, 6, .inl (fun _ => 0)))] := hD
  refine va_astq hx hb hK hP hD hS 1 0 2 8 rfl rfl rfl rfl (show vp_in 10 20 from (by decide : ¬ ((10 : Int32) < 0 ∨ 20 ≤ (10 : Int32).toNatClampNeg))) dX4_init_33 (fun H locs hP hD hS => ?_)
  have hP : va_P (dC, dI) vwCl [(h0, .inr (4, [.ref q_1, .int 0, .int 0])), (q_1, .inl (k_2, 20, .inr (.inr (.inr (.inr (va_up g_162 10 (some q_164))))))), (q_164, .inr (8, [.int 0, .int (-1), .int (-1), .int 0, .int 0, .int 0, .int 0, .ref q0_166, .ref q1_168, .ref q2_170, .ref q3_172, .ref q4_174, .ref q5_176])), (q0_166, .inl (k0_167, 6, .inl (fun _ => 0))), (q1_168, .inl (k1_169, 6, .inl (fun _ => 0))), (q2_170, .inl (k2_171, 6, .inl (fun _ => 0))), (q3_172, .inl (k3_173, 4, .inl (fun _ => 0))), (q4_174, .inl (k4_175, 4, .inl (fun _ => 0))), (q5_176, .inl (k5_177, 6, .inl (fun _ => 0)))] H := hP
  have hD : va_D A [(h0, .inr (4, [.ref q_1, .int 0, .int 0])), (q_1, .inl (k_2, 20, .inr (.inr (.inr (.inr (va_up g_162 10 (some q_164))))))), (q_164, .inr (8, [.int 0, .int (-1), .int (-1), .int 0, .int 0, .int 0, .int 0, .ref q0_166, .ref q1_168, .ref q2_170, .ref q3_172, .ref q4_174, .ref q5_176])), (q0_166, .inl (k0_167, 6, .inl (fun _ => 0))), (q1_168, .inl (k1_169, 6, .inl (fun _ => 0))), (q2_170, .inl (k2_171, 6, .inl (fun _ => 0))), (q3_172, .inl (k3_173, 4, .inl (fun _ => 0))), (q4_174, .inl (k4_175, 4, .inl (fun _ => 0))), (q5_176, .inl (k5_177, 6, .inl (fun _ => 0)))] := hD
  refine lv_iinc (v := 11) (lv' := [(1, .int 11), (0, .ref h0)]) hx hb dX4_init_34 hl (k := 0) rfl (by decide) (by decide) rfl (fun ls hl => ?_)
  refine lv_goto (tgt := 15) hx hb dX4_init_37 (by decide) ?_
  have hP := hP.sub (ws' := [(h0, .inr (4, [.ref q_1, .int 0, .int 0])), (q_1, .inl (k_2, 20, .inr (.inr (.inr (.inr (va_up g_162 10 (some q_164)))))))]) [0, 1] rfl
  have hD := hD.sub (ws' := [(h0, .inr (4, [.ref q_1, .int 0, .int 0])), (q_1, .inl (k_2, 20, .inr (.inr (.inr (.inr (va_up g_162 10 (some q_164)))))))]) [0, 1] (by decide) rfl
  have hK := hK.sub (tys' := [(k_2, .object RX8)]) [0] rfl
  generalize va_up g_162 10 (some q_164) = g_178 at hP hD
  refine lv_iload_n hx hb dX4_init_15 rfl (lv_at hl 0 rfl) ?_
  refine lv_bipush (v := 20) hx hb dX4_init_16 (by decide) ?_
  refine lv_icmp_ge (tgt := 40) hx hb dX4_init_18 (by decide) (fun c_179 => absurd c_179 (by decide)) (fun c_179 => ?_)
  refine lv_aload_n hx hb dX4_init_21 rfl (lv_at hl 1 rfl) ?_
  refine va_get (D := (dC, dI)) (ci := 4) (v := .ref q_1) (C := RX4) (T := TX4) (N := 3) hx hb hts iX4 hown hK hP 0 rfl rfl 0 (by decide) (hts _ tw_327) (fun _ h9 => h9) rfl dX4_init_22 ?_
  refine lv_iload_n hx hb dX4_init_25 rfl (lv_at hl 0 rfl) ?_
  refine va_new (ci := 8) (fs := [.int 0, .int 0, .int 0, .int 0, .int 0, .int 0, .int 0, .null, .null, .null, .null, .null, .null]) (C := RX8) (T := TX8) (N := 13) hx hb hts iX8 tyX8 tyX8_ok hown (hts _ tw_324) (hts _ tw_215) (hts _ tw_8) hK hP hD hS hA rfl (dfX8) (Nat.le_of_ble_eq_true rfl) (Nat.le_of_ble_eq_true rfl) dX4_init_26 (fun q_180 H hP hD hS => ?_)
  have hP : va_P (dC, dI) vwCl [(h0, .inr (4, [.ref q_1, .int 0, .int 0])), (q_1, .inl (k_2, 20, .inr (.inr (.inr (.inr g_178))))), (q_180, .inr (8, [.int 0, .int 0, .int 0, .int 0, .int 0, .int 0, .int 0, .null, .null, .null, .null, .null, .null]))] H := hP
  have hD : va_D A [(h0, .inr (4, [.ref q_1, .int 0, .int 0])), (q_1, .inl (k_2, 20, .inr (.inr (.inr (.inr g_178))))), (q_180, .inr (8, [.int 0, .int 0, .int 0, .int 0, .int 0, .int 0, .int 0, .null, .null, .null, .null, .null, .null]))] := hD
  refine lv_dup hx hb dX4_init_29 rfl ?_
  have hPc := hP.sub (ws' := [(q_180, .inr (8, [.int 0, .int 0, .int 0, .int 0, .int 0, .int 0, .int 0, .null, .null, .null, .null, .null, .null]))]) [2] rfl
  have hDc := hD.sub (ws' := [(q_180, .inr (8, [.int 0, .int 0, .int 0, .int 0, .int 0, .int 0, .int 0, .null, .null, .null, .null, .null, .null]))]) [2] (by decide) rfl
  have hKc := hK.sub (tys' := []) [] rfl
  have hFc := va_free (wc := [(q_180, .inr (8, [.int 0, .int 0, .int 0, .int 0, .int 0, .int 0, .int 0, .null, .null, .null, .null, .null, .null]))]) hD hS hA [2] rfl
  refine va_callv (va_runI (As := []) (rest := [.ref q_180, .int 11, .ref q_1]) ⟨hx, hb, hml, hown, hts⟩ (c_Standing_init l dC dI q_180  H.size) (cwI 0 hts (gU tw_218) rfl rfl rfl (hts _ tw_8) (hts _ tw_326) (hts _ tw_217) rfl (by decide +kernel) ⟨(Nat.le_of_ble_eq_true rfl), (Nat.le_of_ble_eq_true rfl)⟩) ⟨cPre.blind, cPre.use hPc hKc hDc hE⟩ rfl rfl hl.1 rfl (lv_room (Nat.le_of_ble_eq_true rfl)) dX4_init_30 ⟨(Nat.le_of_ble_eq_true rfl), (Nat.le_of_ble_eq_true rfl)⟩) hS (fun q _ h => hFc q h) hFc (fun u t H1 locs ht hvm hw hB hz1 hk1 hS => ?_)
  obtain ⟨q0_182, k0_183, q1_184, k1_185, q2_186, k2_187, q3_188, k3_189, q4_190, k4_191, q5_192, k5_193, hP1, hK1, hD1⟩ := hB
  rw [ht] at hP1
  obtain ⟨hP, hD⟩ := va_join (wr := [(h0, .inr (4, [.ref q_1, .int 0, .int 0])), (q_1, .inl (k_2, 20, .inr (.inr (.inr (.inr g_178)))))]) (w1 := [(q_180, .inr (8, [.int 0, .int (-1), .int (-1), .int 0, .int 0, .int 0, .int 0, .ref q0_182, .ref q1_184, .ref q2_186, .ref q3_188, .ref q4_190, .ref q5_192])), (q0_182, .inl (k0_183, 6, .inl (fun _ => 0))), (q1_184, .inl (k1_185, 6, .inl (fun _ => 0))), (q2_186, .inl (k2_187, 6, .inl (fun _ => 0))), (q3_188, .inl (k3_189, 4, .inl (fun _ => 0))), (q4_190, .inl (k4_191, 4, .inl (fun _ => 0))), (q5_192, .inl (k5_193, 6, .inl (fun _ => 0)))]) hP hD [2] [0, 1] rfl rfl (by decide) (by decide) hk1 hFc hP1 hD1
  have hK1 := va_K.moved hvm.symm hK1
  have hK := hK.app (hK1.sub (tys' := [(k0_183, .int), (k1_185, .int), (k2_187, .int), (k3_189, .int), (k4_191, .int), (k5_193, .int)]) [0, 1, 2, 3, 4, 5] rfl)
  have hK : va_K (dC, dI) vwCl [(k_2, .object RX8), (k0_183, .int), (k1_185, .int), (k2_187, .int), (k3_189, .int), (k4_191, .int), (k5_193, .int)] s := hK
  generalize H1 = H at hP hS ⊢
  have hP : va_P (dC, dI) vwCl [(h0, .inr (4, [.ref q_1, .int 0, .int 0])), (q_1, .inl (k_2, 20, .inr (.inr (.inr (.inr g_178))))), (q_180, .inr (8, [.int 0, .int (-1), .int (-1), .int 0, .int 0, .int 0, .int 0, .ref q0_182, .ref q1_184, .ref q2_186, .ref q3_188, .ref q4_190, .ref q5_192])), (q0_182, .inl (k0_183, 6, .inl (fun _ => 0))), (q1_184, .inl (k1_185, 6, .inl (fun _ => 0))), (q2_186, .inl (k2_187, 6, .inl (fun _ => 0))), (q3_188, .inl (k3_189, 4, .inl (fun _ => 0))), (q4_190, .inl (k4_191, 4, .inl (fun _ => 0))), (q5_192, .inl (k5_193, 6, .inl (fun _ => 0)))] H := hP
  have hD : va_D A [(h0, .inr (4, [.ref q_1, .int 0, .int 0])), (q_1, .inl (k_2, 20, .inr (.inr (.inr (.inr g_178))))), (q_180, .inr (8, [.int 0, .int (-1), .int (-1), .int 0, .int 0, .int 0, .int 0, .ref q0_182, .ref q1_184, .ref q2_186, .ref q3_188, .ref q4_190, .ref q5_192])), (q0_182, .inl (k0_183, 6, .inl (fun _ => 0))), (q1_184, .inl (k1_185, 6, .inl (fun _ => 0))), (q2_186, .inl (k2_187, 6, .inl (fun _ => 0))), (q3_188, .inl (k3_189, 4, .inl (fun _ => 0))), (q4_190, .inl (k4_191, 4, .inl (fun _ => 0))), (q5_192, .inl (k5_193, 6, .inl (fun _ => 0)))] := hD
  refine va_astq hx hb hK hP hD hS 1 0 2 8 rfl rfl rfl rfl (show vp_in 11 20 from (by decide : ¬ ((11 : Int32) < 0 ∨ 20 ≤ (11 : Int32).toNatClampNeg))) dX4_init_33 (fun H locs hP hD hS => ?_)
  have hP : va_P (dC, dI) vwCl [(h0, .inr (4, [.ref q_1, .int 0, .int 0])), (q_1, .inl (k_2, 20, .inr (.inr (.inr (.inr (va_up g_178 11 (some q_180))))))), (q_180, .inr (8, [.int 0, .int (-1), .int (-1), .int 0, .int 0, .int 0, .int 0, .ref q0_182, .ref q1_184, .ref q2_186, .ref q3_188, .ref q4_190, .ref q5_192])), (q0_182, .inl (k0_183, 6, .inl (fun _ => 0))), (q1_184, .inl (k1_185, 6, .inl (fun _ => 0))), (q2_186, .inl (k2_187, 6, .inl (fun _ => 0))), (q3_188, .inl (k3_189, 4, .inl (fun _ => 0))), (q4_190, .inl (k4_191, 4, .inl (fun _ => 0))), (q5_192, .inl (k5_193, 6, .inl (fun _ => 0)))] H := hP
  have hD : va_D A [(h0, .inr (4, [.ref q_1, .int 0, .int 0])), (q_1, .inl (k_2, 20, .inr (.inr (.inr (.inr (va_up g_178 11 (some q_180))))))), (q_180, .inr (8, [.int 0, .int (-1), .int (-1), .int 0, .int 0, .int 0, .int 0, .ref q0_182, .ref q1_184, .ref q2_186, .ref q3_188, .ref q4_190, .ref q5_192])), (q0_182, .inl (k0_183, 6, .inl (fun _ => 0))), (q1_184, .inl (k1_185, 6, .inl (fun _ => 0))), (q2_186, .inl (k2_187, 6, .inl (fun _ => 0))), (q3_188, .inl (k3_189, 4, .inl (fun _ => 0))), (q4_190, .inl (k4_191, 4, .inl (fun _ => 0))), (q5_192, .inl (k5_193, 6, .inl (fun _ => 0)))] := hD
  refine lv_iinc (v := 12) (lv' := [(1, .int 12), (0, .ref h0)]) hx hb dX4_init_34 hl (k := 0) rfl (by decide) (by decide) rfl (fun ls hl => ?_)
  refine lv_goto (tgt := 15) hx hb dX4_init_37 (by decide) ?_
  have hP := hP.sub (ws' := [(h0, .inr (4, [.ref q_1, .int 0, .int 0])), (q_1, .inl (k_2, 20, .inr (.inr (.inr (.inr (va_up g_178 11 (some q_180)))))))]) [0, 1] rfl
  have hD := hD.sub (ws' := [(h0, .inr (4, [.ref q_1, .int 0, .int 0])), (q_1, .inl (k_2, 20, .inr (.inr (.inr (.inr (va_up g_178 11 (some q_180)))))))]) [0, 1] (by decide) rfl
  have hK := hK.sub (tys' := [(k_2, .object RX8)]) [0] rfl
  generalize va_up g_178 11 (some q_180) = g_194 at hP hD
  refine lv_iload_n hx hb dX4_init_15 rfl (lv_at hl 0 rfl) ?_
  refine lv_bipush (v := 20) hx hb dX4_init_16 (by decide) ?_
  refine lv_icmp_ge (tgt := 40) hx hb dX4_init_18 (by decide) (fun c_195 => absurd c_195 (by decide)) (fun c_195 => ?_)
  refine lv_aload_n hx hb dX4_init_21 rfl (lv_at hl 1 rfl) ?_
  refine va_get (D := (dC, dI)) (ci := 4) (v := .ref q_1) (C := RX4) (T := TX4) (N := 3) hx hb hts iX4 hown hK hP 0 rfl rfl 0 (by decide) (hts _ tw_327) (fun _ h9 => h9) rfl dX4_init_22 ?_
  refine lv_iload_n hx hb dX4_init_25 rfl (lv_at hl 0 rfl) ?_
  refine va_new (ci := 8) (fs := [.int 0, .int 0, .int 0, .int 0, .int 0, .int 0, .int 0, .null, .null, .null, .null, .null, .null]) (C := RX8) (T := TX8) (N := 13) hx hb hts iX8 tyX8 tyX8_ok hown (hts _ tw_324) (hts _ tw_215) (hts _ tw_8) hK hP hD hS hA rfl (dfX8) (Nat.le_of_ble_eq_true rfl) (Nat.le_of_ble_eq_true rfl) dX4_init_26 (fun q_196 H hP hD hS => ?_)
  have hP : va_P (dC, dI) vwCl [(h0, .inr (4, [.ref q_1, .int 0, .int 0])), (q_1, .inl (k_2, 20, .inr (.inr (.inr (.inr g_194))))), (q_196, .inr (8, [.int 0, .int 0, .int 0, .int 0, .int 0, .int 0, .int 0, .null, .null, .null, .null, .null, .null]))] H := hP
  have hD : va_D A [(h0, .inr (4, [.ref q_1, .int 0, .int 0])), (q_1, .inl (k_2, 20, .inr (.inr (.inr (.inr g_194))))), (q_196, .inr (8, [.int 0, .int 0, .int 0, .int 0, .int 0, .int 0, .int 0, .null, .null, .null, .null, .null, .null]))] := hD
  refine lv_dup hx hb dX4_init_29 rfl ?_
  have hPc := hP.sub (ws' := [(q_196, .inr (8, [.int 0, .int 0, .int 0, .int 0, .int 0, .int 0, .int 0, .null, .null, .null, .null, .null, .null]))]) [2] rfl
  have hDc := hD.sub (ws' := [(q_196, .inr (8, [.int 0, .int 0, .int 0, .int 0, .int 0, .int 0, .int 0, .null, .null, .null, .null, .null, .null]))]) [2] (by decide) rfl
  have hKc := hK.sub (tys' := []) [] rfl
  have hFc := va_free (wc := [(q_196, .inr (8, [.int 0, .int 0, .int 0, .int 0, .int 0, .int 0, .int 0, .null, .null, .null, .null, .null, .null]))]) hD hS hA [2] rfl
  refine va_callv (va_runI (As := []) (rest := [.ref q_196, .int 12, .ref q_1]) ⟨hx, hb, hml, hown, hts⟩ (c_Standing_init l dC dI q_196  H.size) (cwI 0 hts (gU tw_218) rfl rfl rfl (hts _ tw_8) (hts _ tw_326) (hts _ tw_217) rfl (by decide +kernel) ⟨(Nat.le_of_ble_eq_true rfl), (Nat.le_of_ble_eq_true rfl)⟩) ⟨cPre.blind, cPre.use hPc hKc hDc hE⟩ rfl rfl hl.1 rfl (lv_room (Nat.le_of_ble_eq_true rfl)) dX4_init_30 ⟨(Nat.le_of_ble_eq_true rfl), (Nat.le_of_ble_eq_true rfl)⟩) hS (fun q _ h => hFc q h) hFc (fun u t H1 locs ht hvm hw hB hz1 hk1 hS => ?_)
  obtain ⟨q0_198, k0_199, q1_200, k1_201, q2_202, k2_203, q3_204, k3_205, q4_206, k4_207, q5_208, k5_209, hP1, hK1, hD1⟩ := hB
  rw [ht] at hP1
  obtain ⟨hP, hD⟩ := va_join (wr := [(h0, .inr (4, [.ref q_1, .int 0, .int 0])), (q_1, .inl (k_2, 20, .inr (.inr (.inr (.inr g_194)))))]) (w1 := [(q_196, .inr (8, [.int 0, .int (-1), .int (-1), .int 0, .int 0, .int 0, .int 0, .ref q0_198, .ref q1_200, .ref q2_202, .ref q3_204, .ref q4_206, .ref q5_208])), (q0_198, .inl (k0_199, 6, .inl (fun _ => 0))), (q1_200, .inl (k1_201, 6, .inl (fun _ => 0))), (q2_202, .inl (k2_203, 6, .inl (fun _ => 0))), (q3_204, .inl (k3_205, 4, .inl (fun _ => 0))), (q4_206, .inl (k4_207, 4, .inl (fun _ => 0))), (q5_208, .inl (k5_209, 6, .inl (fun _ => 0)))]) hP hD [2] [0, 1] rfl rfl (by decide) (by decide) hk1 hFc hP1 hD1
  have hK1 := va_K.moved hvm.symm hK1
  have hK := hK.app (hK1.sub (tys' := [(k0_199, .int), (k1_201, .int), (k2_203, .int), (k3_205, .int), (k4_207, .int), (k5_209, .int)]) [0, 1, 2, 3, 4, 5] rfl)
  have hK : va_K (dC, dI) vwCl [(k_2, .object RX8), (k0_199, .int), (k1_201, .int), (k2_203, .int), (k3_205, .int), (k4_207, .int), (k5_209, .int)] s := hK
  generalize H1 = H at hP hS ⊢
  have hP : va_P (dC, dI) vwCl [(h0, .inr (4, [.ref q_1, .int 0, .int 0])), (q_1, .inl (k_2, 20, .inr (.inr (.inr (.inr g_194))))), (q_196, .inr (8, [.int 0, .int (-1), .int (-1), .int 0, .int 0, .int 0, .int 0, .ref q0_198, .ref q1_200, .ref q2_202, .ref q3_204, .ref q4_206, .ref q5_208])), (q0_198, .inl (k0_199, 6, .inl (fun _ => 0))), (q1_200, .inl (k1_201, 6, .inl (fun _ => 0))), (q2_202, .inl (k2_203, 6, .inl (fun _ => 0))), (q3_204, .inl (k3_205, 4, .inl (fun _ => 0))), (q4_206, .inl (k4_207, 4, .inl (fun _ => 0))), (q5_208, .inl (k5_209, 6, .inl (fun _ => 0)))] H := hP
  have hD : va_D A [(h0, .inr (4, [.ref q_1, .int 0, .int 0])), (q_1, .inl (k_2, 20, .inr (.inr (.inr (.inr g_194))))), (q_196, .inr (8, [.int 0, .int (-1), .int (-1), .int 0, .int 0, .int 0, .int 0, .ref q0_198, .ref q1_200, .ref q2_202, .ref q3_204, .ref q4_206, .ref q5_208])), (q0_198, .inl (k0_199, 6, .inl (fun _ => 0))), (q1_200, .inl (k1_201, 6, .inl (fun _ => 0))), (q2_202, .inl (k2_203, 6, .inl (fun _ => 0))), (q3_204, .inl (k3_205, 4, .inl (fun _ => 0))), (q4_206, .inl (k4_207, 4, .inl (fun _ => 0))), (q5_208, .inl (k5_209, 6, .inl (fun _ => 0)))] := hD
  refine va_astq hx hb hK hP hD hS 1 0 2 8 rfl rfl rfl rfl (show vp_in 12 20 from (by decide : ¬ ((12 : Int32) < 0 ∨ 20 ≤ (12 : Int32).toNatClampNeg))) dX4_init_33 (fun H locs hP hD hS => ?_)
  have hP : va_P (dC, dI) vwCl [(h0, .inr (4, [.ref q_1, .int 0, .int 0])), (q_1, .inl (k_2, 20, .inr (.inr (.inr (.inr (va_up g_194 12 (some q_196))))))), (q_196, .inr (8, [.int 0, .int (-1), .int (-1), .int 0, .int 0, .int 0, .int 0, .ref q0_198, .ref q1_200, .ref q2_202, .ref q3_204, .ref q4_206, .ref q5_208])), (q0_198, .inl (k0_199, 6, .inl (fun _ => 0))), (q1_200, .inl (k1_201, 6, .inl (fun _ => 0))), (q2_202, .inl (k2_203, 6, .inl (fun _ => 0))), (q3_204, .inl (k3_205, 4, .inl (fun _ => 0))), (q4_206, .inl (k4_207, 4, .inl (fun _ => 0))), (q5_208, .inl (k5_209, 6, .inl (fun _ => 0)))] H := hP
  have hD : va_D A [(h0, .inr (4, [.ref q_1, .int 0, .int 0])), (q_1, .inl (k_2, 20, .inr (.inr (.inr (.inr (va_up g_194 12 (some q_196))))))), (q_196, .inr (8, [.int 0, .int (-1), .int (-1), .int 0, .int 0, .int 0, .int 0, .ref q0_198, .ref q1_200, .ref q2_202, .ref q3_204, .ref q4_206, .ref q5_208])), (q0_198, .inl (k0_199, 6, .inl (fun _ => 0))), (q1_200, .inl (k1_201, 6, .inl (fun _ => 0))), (q2_202, .inl (k2_203, 6, .inl (fun _ => 0))), (q3_204, .inl (k3_205, 4, .inl (fun _ => 0))), (q4_206, .inl (k4_207, 4, .inl (fun _ => 0))), (q5_208, .inl (k5_209, 6, .inl (fun _ => 0)))] := hD
  refine lv_iinc (v := 13) (lv' := [(1, .int 13), (0, .ref h0)]) hx hb dX4_init_34 hl (k := 0) rfl (by decide) (by decide) rfl (fun ls hl => ?_)
  refine lv_goto (tgt := 15) hx hb dX4_init_37 (by decide) ?_
  have hP := hP.sub (ws' := [(h0, .inr (4, [.ref q_1, .int 0, .int 0])), (q_1, .inl (k_2, 20, .inr (.inr (.inr (.inr (va_up g_194 12 (some q_196)))))))]) [0, 1] rfl
  have hD := hD.sub (ws' := [(h0, .inr (4, [.ref q_1, .int 0, .int 0])), (q_1, .inl (k_2, 20, .inr (.inr (.inr (.inr (va_up g_194 12 (some q_196)))))))]) [0, 1] (by decide) rfl
  have hK := hK.sub (tys' := [(k_2, .object RX8)]) [0] rfl
  generalize va_up g_194 12 (some q_196) = g_210 at hP hD
  refine lv_iload_n hx hb dX4_init_15 rfl (lv_at hl 0 rfl) ?_
  refine lv_bipush (v := 20) hx hb dX4_init_16 (by decide) ?_
  refine lv_icmp_ge (tgt := 40) hx hb dX4_init_18 (by decide) (fun c_211 => absurd c_211 (by decide)) (fun c_211 => ?_)
  refine lv_aload_n hx hb dX4_init_21 rfl (lv_at hl 1 rfl) ?_
  refine va_get (D := (dC, dI)) (ci := 4) (v := .ref q_1) (C := RX4) (T := TX4) (N := 3) hx hb hts iX4 hown hK hP 0 rfl rfl 0 (by decide) (hts _ tw_327) (fun _ h9 => h9) rfl dX4_init_22 ?_
  refine lv_iload_n hx hb dX4_init_25 rfl (lv_at hl 0 rfl) ?_
  refine va_new (ci := 8) (fs := [.int 0, .int 0, .int 0, .int 0, .int 0, .int 0, .int 0, .null, .null, .null, .null, .null, .null]) (C := RX8) (T := TX8) (N := 13) hx hb hts iX8 tyX8 tyX8_ok hown (hts _ tw_324) (hts _ tw_215) (hts _ tw_8) hK hP hD hS hA rfl (dfX8) (Nat.le_of_ble_eq_true rfl) (Nat.le_of_ble_eq_true rfl) dX4_init_26 (fun q_212 H hP hD hS => ?_)
  have hP : va_P (dC, dI) vwCl [(h0, .inr (4, [.ref q_1, .int 0, .int 0])), (q_1, .inl (k_2, 20, .inr (.inr (.inr (.inr g_210))))), (q_212, .inr (8, [.int 0, .int 0, .int 0, .int 0, .int 0, .int 0, .int 0, .null, .null, .null, .null, .null, .null]))] H := hP
  have hD : va_D A [(h0, .inr (4, [.ref q_1, .int 0, .int 0])), (q_1, .inl (k_2, 20, .inr (.inr (.inr (.inr g_210))))), (q_212, .inr (8, [.int 0, .int 0, .int 0, .int 0, .int 0, .int 0, .int 0, .null, .null, .null, .null, .null, .null]))] := hD
  refine lv_dup hx hb dX4_init_29 rfl ?_
  have hPc := hP.sub (ws' := [(q_212, .inr (8, [.int 0, .int 0, .int 0, .int 0, .int 0, .int 0, .int 0, .null, .null, .null, .null, .null, .null]))]) [2] rfl
  have hDc := hD.sub (ws' := [(q_212, .inr (8, [.int 0, .int 0, .int 0, .int 0, .int 0, .int 0, .int 0, .null, .null, .null, .null, .null, .null]))]) [2] (by decide) rfl
  have hKc := hK.sub (tys' := []) [] rfl
  have hFc := va_free (wc := [(q_212, .inr (8, [.int 0, .int 0, .int 0, .int 0, .int 0, .int 0, .int 0, .null, .null, .null, .null, .null, .null]))]) hD hS hA [2] rfl
  refine va_callv (va_runI (As := []) (rest := [.ref q_212, .int 13, .ref q_1]) ⟨hx, hb, hml, hown, hts⟩ (c_Standing_init l dC dI q_212  H.size) (cwI 0 hts (gU tw_218) rfl rfl rfl (hts _ tw_8) (hts _ tw_326) (hts _ tw_217) rfl (by decide +kernel) ⟨(Nat.le_of_ble_eq_true rfl), (Nat.le_of_ble_eq_true rfl)⟩) ⟨cPre.blind, cPre.use hPc hKc hDc hE⟩ rfl rfl hl.1 rfl (lv_room (Nat.le_of_ble_eq_true rfl)) dX4_init_30 ⟨(Nat.le_of_ble_eq_true rfl), (Nat.le_of_ble_eq_true rfl)⟩) hS (fun q _ h => hFc q h) hFc (fun u t H1 locs ht hvm hw hB hz1 hk1 hS => ?_)
  obtain ⟨q0_214, k0_215, q1_216, k1_217, q2_218, k2_219, q3_220, k3_221, q4_222, k4_223, q5_224, k5_225, hP1, hK1, hD1⟩ := hB
  rw [ht] at hP1
  obtain ⟨hP, hD⟩ := va_join (wr := [(h0, .inr (4, [.ref q_1, .int 0, .int 0])), (q_1, .inl (k_2, 20, .inr (.inr (.inr (.inr g_210)))))]) (w1 := [(q_212, .inr (8, [.int 0, .int (-1), .int (-1), .int 0, .int 0, .int 0, .int 0, .ref q0_214, .ref q1_216, .ref q2_218, .ref q3_220, .ref q4_222, .ref q5_224])), (q0_214, .inl (k0_215, 6, .inl (fun _ => 0))), (q1_216, .inl (k1_217, 6, .inl (fun _ => 0))), (q2_218, .inl (k2_219, 6, .inl (fun _ => 0))), (q3_220, .inl (k3_221, 4, .inl (fun _ => 0))), (q4_222, .inl (k4_223, 4, .inl (fun _ => 0))), (q5_224, .inl (k5_225, 6, .inl (fun _ => 0)))]) hP hD [2] [0, 1] rfl rfl (by decide) (by decide) hk1 hFc hP1 hD1
  have hK1 := va_K.moved hvm.symm hK1
  have hK := hK.app (hK1.sub (tys' := [(k0_215, .int), (k1_217, .int), (k2_219, .int), (k3_221, .int), (k4_223, .int), (k5_225, .int)]) [0, 1, 2, 3, 4, 5] rfl)
  have hK : va_K (dC, dI) vwCl [(k_2, .object RX8), (k0_215, .int), (k1_217, .int), (k2_219, .int), (k3_221, .int), (k4_223, .int), (k5_225, .int)] s := hK
  generalize H1 = H at hP hS ⊢
  have hP : va_P (dC, dI) vwCl [(h0, .inr (4, [.ref q_1, .int 0, .int 0])), (q_1, .inl (k_2, 20, .inr (.inr (.inr (.inr g_210))))), (q_212, .inr (8, [.int 0, .int (-1), .int (-1), .int 0, .int 0, .int 0, .int 0, .ref q0_214, .ref q1_216, .ref q2_218, .ref q3_220, .ref q4_222, .ref q5_224])), (q0_214, .inl (k0_215, 6, .inl (fun _ => 0))), (q1_216, .inl (k1_217, 6, .inl (fun _ => 0))), (q2_218, .inl (k2_219, 6, .inl (fun _ => 0))), (q3_220, .inl (k3_221, 4, .inl (fun _ => 0))), (q4_222, .inl (k4_223, 4, .inl (fun _ => 0))), (q5_224, .inl (k5_225, 6, .inl (fun _ => 0)))] H := hP
  have hD : va_D A [(h0, .inr (4, [.ref q_1, .int 0, .int 0])), (q_1, .inl (k_2, 20, .inr (.inr (.inr (.inr g_210))))), (q_212, .inr (8, [.int 0, .int (-1), .int (-1), .int 0, .int 0, .int 0, .int 0, .ref q0_214, .ref q1_216, .ref q2_218, .ref q3_220, .ref q4_222, .ref q5_224])), (q0_214, .inl (k0_215, 6, .inl (fun _ => 0))), (q1_216, .inl (k1_217, 6, .inl (fun _ => 0))), (q2_218, .inl (k2_219, 6, .inl (fun _ => 0))), (q3_220, .inl (k3_221, 4, .inl (fun _ => 0))), (q4_222, .inl (k4_223, 4, .inl (fun _ => 0))), (q5_224, .inl (k5_225, 6, .inl (fun _ => 0)))] := hD
  refine va_astq hx hb hK hP hD hS 1 0 2 8 rfl rfl rfl rfl (show vp_in 13 20 from (by decide : ¬ ((13 : Int32) < 0 ∨ 20 ≤ (13 : Int32).toNatClampNeg))) dX4_init_33 (fun H locs hP hD hS => ?_)
  have hP : va_P (dC, dI) vwCl [(h0, .inr (4, [.ref q_1, .int 0, .int 0])), (q_1, .inl (k_2, 20, .inr (.inr (.inr (.inr (va_up g_210 13 (some q_212))))))), (q_212, .inr (8, [.int 0, .int (-1), .int (-1), .int 0, .int 0, .int 0, .int 0, .ref q0_214, .ref q1_216, .ref q2_218, .ref q3_220, .ref q4_222, .ref q5_224])), (q0_214, .inl (k0_215, 6, .inl (fun _ => 0))), (q1_216, .inl (k1_217, 6, .inl (fun _ => 0))), (q2_218, .inl (k2_219, 6, .inl (fun _ => 0))), (q3_220, .inl (k3_221, 4, .inl (fun _ => 0))), (q4_222, .inl (k4_223, 4, .inl (fun _ => 0))), (q5_224, .inl (k5_225, 6, .inl (fun _ => 0)))] H := hP
  have hD : va_D A [(h0, .inr (4, [.ref q_1, .int 0, .int 0])), (q_1, .inl (k_2, 20, .inr (.inr (.inr (.inr (va_up g_210 13 (some q_212))))))), (q_212, .inr (8, [.int 0, .int (-1), .int (-1), .int 0, .int 0, .int 0, .int 0, .ref q0_214, .ref q1_216, .ref q2_218, .ref q3_220, .ref q4_222, .ref q5_224])), (q0_214, .inl (k0_215, 6, .inl (fun _ => 0))), (q1_216, .inl (k1_217, 6, .inl (fun _ => 0))), (q2_218, .inl (k2_219, 6, .inl (fun _ => 0))), (q3_220, .inl (k3_221, 4, .inl (fun _ => 0))), (q4_222, .inl (k4_223, 4, .inl (fun _ => 0))), (q5_224, .inl (k5_225, 6, .inl (fun _ => 0)))] := hD
  refine lv_iinc (v := 14) (lv' := [(1, .int 14), (0, .ref h0)]) hx hb dX4_init_34 hl (k := 0) rfl (by decide) (by decide) rfl (fun ls hl => ?_)
  refine lv_goto (tgt := 15) hx hb dX4_init_37 (by decide) ?_
  have hP := hP.sub (ws' := [(h0, .inr (4, [.ref q_1, .int 0, .int 0])), (q_1, .inl (k_2, 20, .inr (.inr (.inr (.inr (va_up g_210 13 (some q_212)))))))]) [0, 1] rfl
  have hD := hD.sub (ws' := [(h0, .inr (4, [.ref q_1, .int 0, .int 0])), (q_1, .inl (k_2, 20, .inr (.inr (.inr (.inr (va_up g_210 13 (some q_212)))))))]) [0, 1] (by decide) rfl
  have hK := hK.sub (tys' := [(k_2, .object RX8)]) [0] rfl
  generalize va_up g_210 13 (some q_212) = g_226 at hP hD
  refine lv_iload_n hx hb dX4_init_15 rfl (lv_at hl 0 rfl) ?_
  refine lv_bipush (v := 20) hx hb dX4_init_16 (by decide) ?_
  refine lv_icmp_ge (tgt := 40) hx hb dX4_init_18 (by decide) (fun c_227 => absurd c_227 (by decide)) (fun c_227 => ?_)
  refine lv_aload_n hx hb dX4_init_21 rfl (lv_at hl 1 rfl) ?_
  refine va_get (D := (dC, dI)) (ci := 4) (v := .ref q_1) (C := RX4) (T := TX4) (N := 3) hx hb hts iX4 hown hK hP 0 rfl rfl 0 (by decide) (hts _ tw_327) (fun _ h9 => h9) rfl dX4_init_22 ?_
  refine lv_iload_n hx hb dX4_init_25 rfl (lv_at hl 0 rfl) ?_
  refine va_new (ci := 8) (fs := [.int 0, .int 0, .int 0, .int 0, .int 0, .int 0, .int 0, .null, .null, .null, .null, .null, .null]) (C := RX8) (T := TX8) (N := 13) hx hb hts iX8 tyX8 tyX8_ok hown (hts _ tw_324) (hts _ tw_215) (hts _ tw_8) hK hP hD hS hA rfl (dfX8) (Nat.le_of_ble_eq_true rfl) (Nat.le_of_ble_eq_true rfl) dX4_init_26 (fun q_228 H hP hD hS => ?_)
  have hP : va_P (dC, dI) vwCl [(h0, .inr (4, [.ref q_1, .int 0, .int 0])), (q_1, .inl (k_2, 20, .inr (.inr (.inr (.inr g_226))))), (q_228, .inr (8, [.int 0, .int 0, .int 0, .int 0, .int 0, .int 0, .int 0, .null, .null, .null, .null, .null, .null]))] H := hP
  have hD : va_D A [(h0, .inr (4, [.ref q_1, .int 0, .int 0])), (q_1, .inl (k_2, 20, .inr (.inr (.inr (.inr g_226))))), (q_228, .inr (8, [.int 0, .int 0, .int 0, .int 0, .int 0, .int 0, .int 0, .null, .null, .null, .null, .null, .null]))] := hD
  refine lv_dup hx hb dX4_init_29 rfl ?_
  have hPc := hP.sub (ws' := [(q_228, .inr (8, [.int 0, .int 0, .int 0, .int 0, .int 0, .int 0, .int 0, .null, .null, .null, .null, .null, .null]))]) [2] rfl
  have hDc := hD.sub (ws' := [(q_228, .inr (8, [.int 0, .int 0, .int 0, .int 0, .int 0, .int 0, .int 0, .null, .null, .null, .null, .null, .null]))]) [2] (by decide) rfl
  have hKc := hK.sub (tys' := []) [] rfl
  have hFc := va_free (wc := [(q_228, .inr (8, [.int 0, .int 0, .int 0, .int 0, .int 0, .int 0, .int 0, .null, .null, .null, .null, .null, .null]))]) hD hS hA [2] rfl
  refine va_callv (va_runI (As := []) (rest := [.ref q_228, .int 14, .ref q_1]) ⟨hx, hb, hml, hown, hts⟩ (c_Standing_init l dC dI q_228  H.size) (cwI 0 hts (gU tw_218) rfl rfl rfl (hts _ tw_8) (hts _ tw_326) (hts _ tw_217) rfl (by decide +kernel) ⟨(Nat.le_of_ble_eq_true rfl), (Nat.le_of_ble_eq_true rfl)⟩) ⟨cPre.blind, cPre.use hPc hKc hDc hE⟩ rfl rfl hl.1 rfl (lv_room (Nat.le_of_ble_eq_true rfl)) dX4_init_30 ⟨(Nat.le_of_ble_eq_true rfl), (Nat.le_of_ble_eq_true rfl)⟩) hS (fun q _ h => hFc q h) hFc (fun u t H1 locs ht hvm hw hB hz1 hk1 hS => ?_)
  obtain ⟨q0_230, k0_231, q1_232, k1_233, q2_234, k2_235, q3_236, k3_237, q4_238, k4_239, q5_240, k5_241, hP1, hK1, hD1⟩ := hB
  rw [ht] at hP1
  obtain ⟨hP, hD⟩ := va_join (wr := [(h0, .inr (4, [.ref q_1, .int 0, .int 0])), (q_1, .inl (k_2, 20, .inr (.inr (.inr (.inr g_226)))))]) (w1 := [(q_228, .inr (8, [.int 0, .int (-1), .int (-1), .int 0, .int 0, .int 0, .int 0, .ref q0_230, .ref q1_232, .ref q2_234, .ref q3_236, .ref q4_238, .ref q5_240])), (q0_230, .inl (k0_231, 6, .inl (fun _ => 0))), (q1_232, .inl (k1_233, 6, .inl (fun _ => 0))), (q2_234, .inl (k2_235, 6, .inl (fun _ => 0))), (q3_236, .inl (k3_237, 4, .inl (fun _ => 0))), (q4_238, .inl (k4_239, 4, .inl (fun _ => 0))), (q5_240, .inl (k5_241, 6, .inl (fun _ => 0)))]) hP hD [2] [0, 1] rfl rfl (by decide) (by decide) hk1 hFc hP1 hD1
  have hK1 := va_K.moved hvm.symm hK1
  have hK := hK.app (hK1.sub (tys' := [(k0_231, .int), (k1_233, .int), (k2_235, .int), (k3_237, .int), (k4_239, .int), (k5_241, .int)]) [0, 1, 2, 3, 4, 5] rfl)
  have hK : va_K (dC, dI) vwCl [(k_2, .object RX8), (k0_231, .int), (k1_233, .int), (k2_235, .int), (k3_237, .int), (k4_239, .int), (k5_241, .int)] s := hK
  generalize H1 = H at hP hS ⊢
  have hP : va_P (dC, dI) vwCl [(h0, .inr (4, [.ref q_1, .int 0, .int 0])), (q_1, .inl (k_2, 20, .inr (.inr (.inr (.inr g_226))))), (q_228, .inr (8, [.int 0, .int (-1), .int (-1), .int 0, .int 0, .int 0, .int 0, .ref q0_230, .ref q1_232, .ref q2_234, .ref q3_236, .ref q4_238, .ref q5_240])), (q0_230, .inl (k0_231, 6, .inl (fun _ => 0))), (q1_232, .inl (k1_233, 6, .inl (fun _ => 0))), (q2_234, .inl (k2_235, 6, .inl (fun _ => 0))), (q3_236, .inl (k3_237, 4, .inl (fun _ => 0))), (q4_238, .inl (k4_239, 4, .inl (fun _ => 0))), (q5_240, .inl (k5_241, 6, .inl (fun _ => 0)))] H := hP
  have hD : va_D A [(h0, .inr (4, [.ref q_1, .int 0, .int 0])), (q_1, .inl (k_2, 20, .inr (.inr (.inr (.inr g_226))))), (q_228, .inr (8, [.int 0, .int (-1), .int (-1), .int 0, .int 0, .int 0, .int 0, .ref q0_230, .ref q1_232, .ref q2_234, .ref q3_236, .ref q4_238, .ref q5_240])), (q0_230, .inl (k0_231, 6, .inl (fun _ => 0))), (q1_232, .inl (k1_233, 6, .inl (fun _ => 0))), (q2_234, .inl (k2_235, 6, .inl (fun _ => 0))), (q3_236, .inl (k3_237, 4, .inl (fun _ => 0))), (q4_238, .inl (k4_239, 4, .inl (fun _ => 0))), (q5_240, .inl (k5_241, 6, .inl (fun _ => 0)))] := hD
  refine va_astq hx hb hK hP hD hS 1 0 2 8 rfl rfl rfl rfl (show vp_in 14 20 from (by decide : ¬ ((14 : Int32) < 0 ∨ 20 ≤ (14 : Int32).toNatClampNeg))) dX4_init_33 (fun H locs hP hD hS => ?_)
  have hP : va_P (dC, dI) vwCl [(h0, .inr (4, [.ref q_1, .int 0, .int 0])), (q_1, .inl (k_2, 20, .inr (.inr (.inr (.inr (va_up g_226 14 (some q_228))))))), (q_228, .inr (8, [.int 0, .int (-1), .int (-1), .int 0, .int 0, .int 0, .int 0, .ref q0_230, .ref q1_232, .ref q2_234, .ref q3_236, .ref q4_238, .ref q5_240])), (q0_230, .inl (k0_231, 6, .inl (fun _ => 0))), (q1_232, .inl (k1_233, 6, .inl (fun _ => 0))), (q2_234, .inl (k2_235, 6, .inl (fun _ => 0))), (q3_236, .inl (k3_237, 4, .inl (fun _ => 0))), (q4_238, .inl (k4_239, 4, .inl (fun _ => 0))), (q5_240, .inl (k5_241, 6, .inl (fun _ => 0)))] H := hP
  have hD : va_D A [(h0, .inr (4, [.ref q_1, .int 0, .int 0])), (q_1, .inl (k_2, 20, .inr (.inr (.inr (.inr (va_up g_226 14 (some q_228))))))), (q_228, .inr (8, [.int 0, .int (-1), .int (-1), .int 0, .int 0, .int 0, .int 0, .ref q0_230, .ref q1_232, .ref q2_234, .ref q3_236, .ref q4_238, .ref q5_240])), (q0_230, .inl (k0_231, 6, .inl (fun _ => 0))), (q1_232, .inl (k1_233, 6, .inl (fun _ => 0))), (q2_234, .inl (k2_235, 6, .inl (fun _ => 0))), (q3_236, .inl (k3_237, 4, .inl (fun _ => 0))), (q4_238, .inl (k4_239, 4, .inl (fun _ => 0))), (q5_240, .inl (k5_241, 6, .inl (fun _ => 0)))] := hD
  refine lv_iinc (v := 15) (lv' := [(1, .int 15), (0, .ref h0)]) hx hb dX4_init_34 hl (k := 0) rfl (by decide) (by decide) rfl (fun ls hl => ?_)
  refine lv_goto (tgt := 15) hx hb dX4_init_37 (by decide) ?_
  have hP := hP.sub (ws' := [(h0, .inr (4, [.ref q_1, .int 0, .int 0])), (q_1, .inl (k_2, 20, .inr (.inr (.inr (.inr (va_up g_226 14 (some q_228)))))))]) [0, 1] rfl
  have hD := hD.sub (ws' := [(h0, .inr (4, [.ref q_1, .int 0, .int 0])), (q_1, .inl (k_2, 20, .inr (.inr (.inr (.inr (va_up g_226 14 (some q_228)))))))]) [0, 1] (by decide) rfl
  have hK := hK.sub (tys' := [(k_2, .object RX8)]) [0] rfl
  generalize va_up g_226 14 (some q_228) = g_242 at hP hD
  refine lv_iload_n hx hb dX4_init_15 rfl (lv_at hl 0 rfl) ?_
  refine lv_bipush (v := 20) hx hb dX4_init_16 (by decide) ?_
  refine lv_icmp_ge (tgt := 40) hx hb dX4_init_18 (by decide) (fun c_243 => absurd c_243 (by decide)) (fun c_243 => ?_)
  refine lv_aload_n hx hb dX4_init_21 rfl (lv_at hl 1 rfl) ?_
  refine va_get (D := (dC, dI)) (ci := 4) (v := .ref q_1) (C := RX4) (T := TX4) (N := 3) hx hb hts iX4 hown hK hP 0 rfl rfl 0 (by decide) (hts _ tw_327) (fun _ h9 => h9) rfl dX4_init_22 ?_
  refine lv_iload_n hx hb dX4_init_25 rfl (lv_at hl 0 rfl) ?_
  refine va_new (ci := 8) (fs := [.int 0, .int 0, .int 0, .int 0, .int 0, .int 0, .int 0, .null, .null, .null, .null, .null, .null]) (C := RX8) (T := TX8) (N := 13) hx hb hts iX8 tyX8 tyX8_ok hown (hts _ tw_324) (hts _ tw_215) (hts _ tw_8) hK hP hD hS hA rfl (dfX8) (Nat.le_of_ble_eq_true rfl) (Nat.le_of_ble_eq_true rfl) dX4_init_26 (fun q_244 H hP hD hS => ?_)
  have hP : va_P (dC, dI) vwCl [(h0, .inr (4, [.ref q_1, .int 0, .int 0])), (q_1, .inl (k_2, 20, .inr (.inr (.inr (.inr g_242))))), (q_244, .inr (8, [.int 0, .int 0, .int 0, .int 0, .int 0, .int 0, .int 0, .null, .null, .null, .null, .null, .null]))] H := hP
  have hD : va_D A [(h0, .inr (4, [.ref q_1, .int 0, .int 0])), (q_1, .inl (k_2, 20, .inr (.inr (.inr (.inr g_242))))), (q_244, .inr (8, [.int 0, .int 0, .int 0, .int 0, .int 0, .int 0, .int 0, .null, .null, .null, .null, .null, .null]))] := hD
  refine lv_dup hx hb dX4_init_29 rfl ?_
  have hPc := hP.sub (ws' := [(q_244, .inr (8, [.int 0, .int 0, .int 0, .int 0, .int 0, .int 0, .int 0, .null, .null, .null, .null, .null, .null]))]) [2] rfl
  have hDc := hD.sub (ws' := [(q_244, .inr (8, [.int 0, .int 0, .int 0, .int 0, .int 0, .int 0, .int 0, .null, .null, .null, .null, .null, .null]))]) [2] (by decide) rfl
  have hKc := hK.sub (tys' := []) [] rfl
  have hFc := va_free (wc := [(q_244, .inr (8, [.int 0, .int 0, .int 0, .int 0, .int 0, .int 0, .int 0, .null, .null, .null, .null, .null, .null]))]) hD hS hA [2] rfl
  refine va_callv (va_runI (As := []) (rest := [.ref q_244, .int 15, .ref q_1]) ⟨hx, hb, hml, hown, hts⟩ (c_Standing_init l dC dI q_244  H.size) (cwI 0 hts (gU tw_218) rfl rfl rfl (hts _ tw_8) (hts _ tw_326) (hts _ tw_217) rfl (by decide +kernel) ⟨(Nat.le_of_ble_eq_true rfl), (Nat.le_of_ble_eq_true rfl)⟩) ⟨cPre.blind, cPre.use hPc hKc hDc hE⟩ rfl rfl hl.1 rfl (lv_room (Nat.le_of_ble_eq_true rfl)) dX4_init_30 ⟨(Nat.le_of_ble_eq_true rfl), (Nat.le_of_ble_eq_true rfl)⟩) hS (fun q _ h => hFc q h) hFc (fun u t H1 locs ht hvm hw hB hz1 hk1 hS => ?_)
  obtain ⟨q0_246, k0_247, q1_248, k1_249, q2_250, k2_251, q3_252, k3_253, q4_254, k4_255, q5_256, k5_257, hP1, hK1, hD1⟩ := hB
  rw [ht] at hP1
  obtain ⟨hP, hD⟩ := va_join (wr := [(h0, .inr (4, [.ref q_1, .int 0, .int 0])), (q_1, .inl (k_2, 20, .inr (.inr (.inr (.inr g_242)))))]) (w1 := [(q_244, .inr (8, [.int 0, .int (-1), .int (-1), .int 0, .int 0, .int 0, .int 0, .ref q0_246, .ref q1_248, .ref q2_250, .ref q3_252, .ref q4_254, .ref q5_256])), (q0_246, .inl (k0_247, 6, .inl (fun _ => 0))), (q1_248, .inl (k1_249, 6, .inl (fun _ => 0))), (q2_250, .inl (k2_251, 6, .inl (fun _ => 0))), (q3_252, .inl (k3_253, 4, .inl (fun _ => 0))), (q4_254, .inl (k4_255, 4, .inl (fun _ => 0))), (q5_256, .inl (k5_257, 6, .inl (fun _ => 0)))]) hP hD [2] [0, 1] rfl rfl (by decide) (by decide) hk1 hFc hP1 hD1
  have hK1 := va_K.moved hvm.symm hK1
  have hK := hK.app (hK1.sub (tys' := [(k0_247, .int), (k1_249, .int), (k2_251, .int), (k3_253, .int), (k4_255, .int), (k5_257, .int)]) [0, 1, 2, 3, 4, 5] rfl)
  have hK : va_K (dC, dI) vwCl [(k_2, .object RX8), (k0_247, .int), (k1_249, .int), (k2_251, .int), (k3_253, .int), (k4_255, .int), (k5_257, .int)] s := hK
  generalize H1 = H at hP hS ⊢
  have hP : va_P (dC, dI) vwCl [(h0, .inr (4, [.ref q_1, .int 0, .int 0])), (q_1, .inl (k_2, 20, .inr (.inr (.inr (.inr g_242))))), (q_244, .inr (8, [.int 0, .int (-1), .int (-1), .int 0, .int 0, .int 0, .int 0, .ref q0_246, .ref q1_248, .ref q2_250, .ref q3_252, .ref q4_254, .ref q5_256])), (q0_246, .inl (k0_247, 6, .inl (fun _ => 0))), (q1_248, .inl (k1_249, 6, .inl (fun _ => 0))), (q2_250, .inl (k2_251, 6, .inl (fun _ => 0))), (q3_252, .inl (k3_253, 4, .inl (fun _ => 0))), (q4_254, .inl (k4_255, 4, .inl (fun _ => 0))), (q5_256, .inl (k5_257, 6, .inl (fun _ => 0)))] H := hP
  have hD : va_D A [(h0, .inr (4, [.ref q_1, .int 0, .int 0])), (q_1, .inl (k_2, 20, .inr (.inr (.inr (.inr g_242))))), (q_244, .inr (8, [.int 0, .int (-1), .int (-1), .int 0, .int 0, .int 0, .int 0, .ref q0_246, .ref q1_248, .ref q2_250, .ref q3_252, .ref q4_254, .ref q5_256])), (q0_246, .inl (k0_247, 6, .inl (fun _ => 0))), (q1_248, .inl (k1_249, 6, .inl (fun _ => 0))), (q2_250, .inl (k2_251, 6, .inl (fun _ => 0))), (q3_252, .inl (k3_253, 4, .inl (fun _ => 0))), (q4_254, .inl (k4_255, 4, .inl (fun _ => 0))), (q5_256, .inl (k5_257, 6, .inl (fun _ => 0)))] := hD
  refine va_astq hx hb hK hP hD hS 1 0 2 8 rfl rfl rfl rfl (show vp_in 15 20 from (by decide : ¬ ((15 : Int32) < 0 ∨ 20 ≤ (15 : Int32).toNatClampNeg))) dX4_init_33 (fun H locs hP hD hS => ?_)
  have hP : va_P (dC, dI) vwCl [(h0, .inr (4, [.ref q_1, .int 0, .int 0])), (q_1, .inl (k_2, 20, .inr (.inr (.inr (.inr (va_up g_242 15 (some q_244))))))), (q_244, .inr (8, [.int 0, .int (-1), .int (-1), .int 0, .int 0, .int 0, .int 0, .ref q0_246, .ref q1_248, .ref q2_250, .ref q3_252, .ref q4_254, .ref q5_256])), (q0_246, .inl (k0_247, 6, .inl (fun _ => 0))), (q1_248, .inl (k1_249, 6, .inl (fun _ => 0))), (q2_250, .inl (k2_251, 6, .inl (fun _ => 0))), (q3_252, .inl (k3_253, 4, .inl (fun _ => 0))), (q4_254, .inl (k4_255, 4, .inl (fun _ => 0))), (q5_256, .inl (k5_257, 6, .inl (fun _ => 0)))] H := hP
  have hD : va_D A [(h0, .inr (4, [.ref q_1, .int 0, .int 0])), (q_1, .inl (k_2, 20, .inr (.inr (.inr (.inr (va_up g_242 15 (some q_244))))))), (q_244, .inr (8, [.int 0, .int (-1), .int (-1), .int 0, .int 0, .int 0, .int 0, .ref q0_246, .ref q1_248, .ref q2_250, .ref q3_252, .ref q4_254, .ref q5_256])), (q0_246, .inl (k0_247, 6, .inl (fun _ => 0))), (q1_248, .inl (k1_249, 6, .inl (fun _ => 0))), (q2_250, .inl (k2_251, 6, .inl (fun _ => 0))), (q3_252, .inl (k3_253, 4, .inl (fun _ => 0))), (q4_254, .inl (k4_255, 4, .inl (fun _ => 0))), (q5_256, .inl (k5_257, 6, .inl (fun _ => 0)))] := hD
  refine lv_iinc (v := 16) (lv' := [(1, .int 16), (0, .ref h0)]) hx hb dX4_init_34 hl (k := 0) rfl (by decide) (by decide) rfl (fun ls hl => ?_)
  refine lv_goto (tgt := 15) hx hb dX4_init_37 (by decide) ?_
  have hP := hP.sub (ws' := [(h0, .inr (4, [.ref q_1, .int 0, .int 0])), (q_1, .inl (k_2, 20, .inr (.inr (.inr (.inr (va_up g_242 15 (some q_244)))))))]) [0, 1] rfl
  have hD := hD.sub (ws' := [(h0, .inr (4, [.ref q_1, .int 0, .int 0])), (q_1, .inl (k_2, 20, .inr (.inr (.inr (.inr (va_up g_242 15 (some q_244)))))))]) [0, 1] (by decide) rfl
  have hK := hK.sub (tys' := [(k_2, .object RX8)]) [0] rfl
  generalize va_up g_242 15 (some q_244) = g_258 at hP hD
  refine lv_iload_n hx hb dX4_init_15 rfl (lv_at hl 0 rfl) ?_
  refine lv_bipush (v := 20) hx hb dX4_init_16 (by decide) ?_
  refine lv_icmp_ge (tgt := 40) hx hb dX4_init_18 (by decide) (fun c_259 => absurd c_259 (by decide)) (fun c_259 => ?_)
  refine lv_aload_n hx hb dX4_init_21 rfl (lv_at hl 1 rfl) ?_
  refine va_get (D := (dC, dI)) (ci := 4) (v := .ref q_1) (C := RX4) (T := TX4) (N := 3) hx hb hts iX4 hown hK hP 0 rfl rfl 0 (by decide) (hts _ tw_327) (fun _ h9 => h9) rfl dX4_init_22 ?_
  refine lv_iload_n hx hb dX4_init_25 rfl (lv_at hl 0 rfl) ?_
  refine va_new (ci := 8) (fs := [.int 0, .int 0, .int 0, .int 0, .int 0, .int 0, .int 0, .null, .null, .null, .null, .null, .null]) (C := RX8) (T := TX8) (N := 13) hx hb hts iX8 tyX8 tyX8_ok hown (hts _ tw_324) (hts _ tw_215) (hts _ tw_8) hK hP hD hS hA rfl (dfX8) (Nat.le_of_ble_eq_true rfl) (Nat.le_of_ble_eq_true rfl) dX4_init_26 (fun q_260 H hP hD hS => ?_)
  have hP : va_P (dC, dI) vwCl [(h0, .inr (4, [.ref q_1, .int 0, .int 0])), (q_1, .inl (k_2, 20, .inr (.inr (.inr (.inr g_258))))), (q_260, .inr (8, [.int 0, .int 0, .int 0, .int 0, .int 0, .int 0, .int 0, .null, .null, .null, .null, .null, .null]))] H := hP
  have hD : va_D A [(h0, .inr (4, [.ref q_1, .int 0, .int 0])), (q_1, .inl (k_2, 20, .inr (.inr (.inr (.inr g_258))))), (q_260, .inr (8, [.int 0, .int 0, .int 0, .int 0, .int 0, .int 0, .int 0, .null, .null, .null, .null, .null, .null]))] := hD
  refine lv_dup hx hb dX4_init_29 rfl ?_
  have hPc := hP.sub (ws' := [(q_260, .inr (8, [.int 0, .int 0, .int 0, .int 0, .int 0, .int 0, .int 0, .null, .null, .null, .null, .null, .null]))]) [2] rfl
  have hDc := hD.sub (ws' := [(q_260, .inr (8, [.int 0, .int 0, .int 0, .int 0, .int 0, .int 0, .int 0, .null, .null, .null, .null, .null, .null]))]) [2] (by decide) rfl
  have hKc := hK.sub (tys' := []) [] rfl
  have hFc := va_free (wc := [(q_260, .inr (8, [.int 0, .int 0, .int 0, .int 0, .int 0, .int 0, .int 0, .null, .null, .null, .null, .null, .null]))]) hD hS hA [2] rfl
  refine va_callv (va_runI (As := []) (rest := [.ref q_260, .int 16, .ref q_1]) ⟨hx, hb, hml, hown, hts⟩ (c_Standing_init l dC dI q_260  H.size) (cwI 0 hts (gU tw_218) rfl rfl rfl (hts _ tw_8) (hts _ tw_326) (hts _ tw_217) rfl (by decide +kernel) ⟨(Nat.le_of_ble_eq_true rfl), (Nat.le_of_ble_eq_true rfl)⟩) ⟨cPre.blind, cPre.use hPc hKc hDc hE⟩ rfl rfl hl.1 rfl (lv_room (Nat.le_of_ble_eq_true rfl)) dX4_init_30 ⟨(Nat.le_of_ble_eq_true rfl), (Nat.le_of_ble_eq_true rfl)⟩) hS (fun q _ h => hFc q h) hFc (fun u t H1 locs ht hvm hw hB hz1 hk1 hS => ?_)
  obtain ⟨q0_262, k0_263, q1_264, k1_265, q2_266, k2_267, q3_268, k3_269, q4_270, k4_271, q5_272, k5_273, hP1, hK1, hD1⟩ := hB
  rw [ht] at hP1
  obtain ⟨hP, hD⟩ := va_join (wr := [(h0, .inr (4, [.ref q_1, .int 0, .int 0])), (q_1, .inl (k_2, 20, .inr (.inr (.inr (.inr g_258)))))]) (w1 := [(q_260, .inr (8, [.int 0, .int (-1), .int (-1), .int 0, .int 0, .int 0, .int 0, .ref q0_262, .ref q1_264, .ref q2_266, .ref q3_268, .ref q4_270, .ref q5_272])), (q0_262, .inl (k0_263, 6, .inl (fun _ => 0))), (q1_264, .inl (k1_265, 6, .inl (fun _ => 0))), (q2_266, .inl (k2_267, 6, .inl (fun _ => 0))), (q3_268, .inl (k3_269, 4, .inl (fun _ => 0))), (q4_270, .inl (k4_271, 4, .inl (fun _ => 0))), (q5_272, .inl (k5_273, 6, .inl (fun _ => 0)))]) hP hD [2] [0, 1] rfl rfl (by decide) (by decide) hk1 hFc hP1 hD1
  have hK1 := va_K.moved hvm.symm hK1
  have hK := hK.app (hK1.sub (tys' := [(k0_263, .int), (k1_265, .int), (k2_267, .int), (k3_269, .int), (k4_271, .int), (k5_273, .int)]) [0, 1, 2, 3, 4, 5] rfl)
  have hK : va_K (dC, dI) vwCl [(k_2, .object RX8), (k0_263, .int), (k1_265, .int), (k2_267, .int), (k3_269, .int), (k4_271, .int), (k5_273, .int)] s := hK
  generalize H1 = H at hP hS ⊢
  have hP : va_P (dC, dI) vwCl [(h0, .inr (4, [.ref q_1, .int 0, .int 0])), (q_1, .inl (k_2, 20, .inr (.inr (.inr (.inr g_258))))), (q_260, .inr (8, [.int 0, .int (-1), .int (-1), .int 0, .int 0, .int 0, .int 0, .ref q0_262, .ref q1_264, .ref q2_266, .ref q3_268, .ref q4_270, .ref q5_272])), (q0_262, .inl (k0_263, 6, .inl (fun _ => 0))), (q1_264, .inl (k1_265, 6, .inl (fun _ => 0))), (q2_266, .inl (k2_267, 6, .inl (fun _ => 0))), (q3_268, .inl (k3_269, 4, .inl (fun _ => 0))), (q4_270, .inl (k4_271, 4, .inl (fun _ => 0))), (q5_272, .inl (k5_273, 6, .inl (fun _ => 0)))] H := hP
  have hD : va_D A [(h0, .inr (4, [.ref q_1, .int 0, .int 0])), (q_1, .inl (k_2, 20, .inr (.inr (.inr (.inr g_258))))), (q_260, .inr (8, [.int 0, .int (-1), .int (-1), .int 0, .int 0, .int 0, .int 0, .ref q0_262, .ref q1_264, .ref q2_266, .ref q3_268, .ref q4_270, .ref q5_272])), (q0_262, .inl (k0_263, 6, .inl (fun _ => 0))), (q1_264, .inl (k1_265, 6, .inl (fun _ => 0))), (q2_266, .inl (k2_267, 6, .inl (fun _ => 0))), (q3_268, .inl (k3_269, 4, .inl (fun _ => 0))), (q4_270, .inl (k4_271, 4, .inl (fun _ => 0))), (q5_272, .inl (k5_273, 6, .inl (fun _ => 0)))] := hD
  refine va_astq hx hb hK hP hD hS 1 0 2 8 rfl rfl rfl rfl (show vp_in 16 20 from (by decide : ¬ ((16 : Int32) < 0 ∨ 20 ≤ (16 : Int32).toNatClampNeg))) dX4_init_33 (fun H locs hP hD hS => ?_)
  have hP : va_P (dC, dI) vwCl [(h0, .inr (4, [.ref q_1, .int 0, .int 0])), (q_1, .inl (k_2, 20, .inr (.inr (.inr (.inr (va_up g_258 16 (some q_260))))))), (q_260, .inr (8, [.int 0, .int (-1), .int (-1), .int 0, .int 0, .int 0, .int 0, .ref q0_262, .ref q1_264, .ref q2_266, .ref q3_268, .ref q4_270, .ref q5_272])), (q0_262, .inl (k0_263, 6, .inl (fun _ => 0))), (q1_264, .inl (k1_265, 6, .inl (fun _ => 0))), (q2_266, .inl (k2_267, 6, .inl (fun _ => 0))), (q3_268, .inl (k3_269, 4, .inl (fun _ => 0))), (q4_270, .inl (k4_271, 4, .inl (fun _ => 0))), (q5_272, .inl (k5_273, 6, .inl (fun _ => 0)))] H := hP
  have hD : va_D A [(h0, .inr (4, [.ref q_1, .int 0, .int 0])), (q_1, .inl (k_2, 20, .inr (.inr (.inr (.inr (va_up g_258 16 (some q_260))))))), (q_260, .inr (8, [.int 0, .int (-1), .int (-1), .int 0, .int 0, .int 0, .int 0, .ref q0_262, .ref q1_264, .ref q2_266, .ref q3_268, .ref q4_270, .ref q5_272])), (q0_262, .inl (k0_263, 6, .inl (fun _ => 0))), (q1_264, .inl (k1_265, 6, .inl (fun _ => 0))), (q2_266, .inl (k2_267, 6, .inl (fun _ => 0))), (q3_268, .inl (k3_269, 4, .inl (fun _ => 0))), (q4_270, .inl (k4_271, 4, .inl (fun _ => 0))), (q5_272, .inl (k5_273, 6, .inl (fun _ => 0)))] := hD
  refine lv_iinc (v := 17) (lv' := [(1, .int 17), (0, .ref h0)]) hx hb dX4_init_34 hl (k := 0) rfl (by decide) (by decide) rfl (fun ls hl => ?_)
  refine lv_goto (tgt := 15) hx hb dX4_init_37 (by decide) ?_
  have hP := hP.sub (ws' := [(h0, .inr (4, [.ref q_1, .int 0, .int 0])), (q_1, .inl (k_2, 20, .inr (.inr (.inr (.inr (va_up g_258 16 (some q_260)))))))]) [0, 1] rfl
  have hD := hD.sub (ws' := [(h0, .inr (4, [.ref q_1, .int 0, .int 0])), (q_1, .inl (k_2, 20, .inr (.inr (.inr (.inr (va_up g_258 16 (some q_260)))))))]) [0, 1] (by decide) rfl
  have hK := hK.sub (tys' := [(k_2, .object RX8)]) [0] rfl
  generalize va_up g_258 16 (some q_260) = g_274 at hP hD
  refine lv_iload_n hx hb dX4_init_15 rfl (lv_at hl 0 rfl) ?_
  refine lv_bipush (v := 20) hx hb dX4_init_16 (by decide) ?_
  refine lv_icmp_ge (tgt := 40) hx hb dX4_init_18 (by decide) (fun c_275 => absurd c_275 (by decide)) (fun c_275 => ?_)
  refine lv_aload_n hx hb dX4_init_21 rfl (lv_at hl 1 rfl) ?_
  refine va_get (D := (dC, dI)) (ci := 4) (v := .ref q_1) (C := RX4) (T := TX4) (N := 3) hx hb hts iX4 hown hK hP 0 rfl rfl 0 (by decide) (hts _ tw_327) (fun _ h9 => h9) rfl dX4_init_22 ?_
  refine lv_iload_n hx hb dX4_init_25 rfl (lv_at hl 0 rfl) ?_
  refine va_new (ci := 8) (fs := [.int 0, .int 0, .int 0, .int 0, .int 0, .int 0, .int 0, .null, .null, .null, .null, .null, .null]) (C := RX8) (T := TX8) (N := 13) hx hb hts iX8 tyX8 tyX8_ok hown (hts _ tw_324) (hts _ tw_215) (hts _ tw_8) hK hP hD hS hA rfl (dfX8) (Nat.le_of_ble_eq_true rfl) (Nat.le_of_ble_eq_true rfl) dX4_init_26 (fun q_276 H hP hD hS => ?_)
  have hP : va_P (dC, dI) vwCl [(h0, .inr (4, [.ref q_1, .int 0, .int 0])), (q_1, .inl (k_2, 20, .inr (.inr (.inr (.inr g_274))))), (q_276, .inr (8, [.int 0, .int 0, .int 0, .int 0, .int 0, .int 0, .int 0, .null, .null, .null, .null, .null, .null]))] H := hP
  have hD : va_D A [(h0, .inr (4, [.ref q_1, .int 0, .int 0])), (q_1, .inl (k_2, 20, .inr (.inr (.inr (.inr g_274))))), (q_276, .inr (8, [.int 0, .int 0, .int 0, .int 0, .int 0, .int 0, .int 0, .null, .null, .null, .null, .null, .null]))] := hD
  refine lv_dup hx hb dX4_init_29 rfl ?_
  have hPc := hP.sub (ws' := [(q_276, .inr (8, [.int 0, .int 0, .int 0, .int 0, .int 0, .int 0, .int 0, .null, .null, .null, .null, .null, .null]))]) [2] rfl
  have hDc := hD.sub (ws' := [(q_276, .inr (8, [.int 0, .int 0, .int 0, .int 0, .int 0, .int 0, .int 0, .null, .null, .null, .null, .null, .null]))]) [2] (by decide) rfl
  have hKc := hK.sub (tys' := []) [] rfl
  have hFc := va_free (wc := [(q_276, .inr (8, [.int 0, .int 0, .int 0, .int 0, .int 0, .int 0, .int 0, .null, .null, .null, .null, .null, .null]))]) hD hS hA [2] rfl
  refine va_callv (va_runI (As := []) (rest := [.ref q_276, .int 17, .ref q_1]) ⟨hx, hb, hml, hown, hts⟩ (c_Standing_init l dC dI q_276  H.size) (cwI 0 hts (gU tw_218) rfl rfl rfl (hts _ tw_8) (hts _ tw_326) (hts _ tw_217) rfl (by decide +kernel) ⟨(Nat.le_of_ble_eq_true rfl), (Nat.le_of_ble_eq_true rfl)⟩) ⟨cPre.blind, cPre.use hPc hKc hDc hE⟩ rfl rfl hl.1 rfl (lv_room (Nat.le_of_ble_eq_true rfl)) dX4_init_30 ⟨(Nat.le_of_ble_eq_true rfl), (Nat.le_of_ble_eq_true rfl)⟩) hS (fun q _ h => hFc q h) hFc (fun u t H1 locs ht hvm hw hB hz1 hk1 hS => ?_)
  obtain ⟨q0_278, k0_279, q1_280, k1_281, q2_282, k2_283, q3_284, k3_285, q4_286, k4_287, q5_288, k5_289, hP1, hK1, hD1⟩ := hB
  rw [ht] at hP1
  obtain ⟨hP, hD⟩ := va_join (wr := [(h0, .inr (4, [.ref q_1, .int 0, .int 0])), (q_1, .inl (k_2, 20, .inr (.inr (.inr (.inr g_274)))))]) (w1 := [(q_276, .inr (8, [.int 0, .int (-1), .int (-1), .int 0, .int 0, .int 0, .int 0, .ref q0_278, .ref q1_280, .ref q2_282, .ref q3_284, .ref q4_286, .ref q5_288])), (q0_278, .inl (k0_279, 6, .inl (fun _ => 0))), (q1_280, .inl (k1_281, 6, .inl (fun _ => 0))), (q2_282, .inl (k2_283, 6, .inl (fun _ => 0))), (q3_284, .inl (k3_285, 4, .inl (fun _ => 0))), (q4_286, .inl (k4_287, 4, .inl (fun _ => 0))), (q5_288, .inl (k5_289, 6, .inl (fun _ => 0)))]) hP hD [2] [0, 1] rfl rfl (by decide) (by decide) hk1 hFc hP1 hD1
  have hK1 := va_K.moved hvm.symm hK1
  have hK := hK.app (hK1.sub (tys' := [(k0_279, .int), (k1_281, .int), (k2_283, .int), (k3_285, .int), (k4_287, .int), (k5_289, .int)]) [0, 1, 2, 3, 4, 5] rfl)
  have hK : va_K (dC, dI) vwCl [(k_2, .object RX8), (k0_279, .int), (k1_281, .int), (k2_283, .int), (k3_285, .int), (k4_287, .int), (k5_289, .int)] s := hK
  generalize H1 = H at hP hS ⊢
  have hP : va_P (dC, dI) vwCl [(h0, .inr (4, [.ref q_1, .int 0, .int 0])), (q_1, .inl (k_2, 20, .inr (.inr (.inr (.inr g_274))))), (q_276, .inr (8, [.int 0, .int (-1), .int (-1), .int 0, .int 0, .int 0, .int 0, .ref q0_278, .ref q1_280, .ref q2_282, .ref q3_284, .ref q4_286, .ref q5_288])), (q0_278, .inl (k0_279, 6, .inl (fun _ => 0))), (q1_280, .inl (k1_281, 6, .inl (fun _ => 0))), (q2_282, .inl (k2_283, 6, .inl (fun _ => 0))), (q3_284, .inl (k3_285, 4, .inl (fun _ => 0))), (q4_286, .inl (k4_287, 4, .inl (fun _ => 0))), (q5_288, .inl (k5_289, 6, .inl (fun _ => 0)))] H := hP
  have hD : va_D A [(h0, .inr (4, [.ref q_1, .int 0, .int 0])), (q_1, .inl (k_2, 20, .inr (.inr (.inr (.inr g_274))))), (q_276, .inr (8, [.int 0, .int (-1), .int (-1), .int 0, .int 0, .int 0, .int 0, .ref q0_278, .ref q1_280, .ref q2_282, .ref q3_284, .ref q4_286, .ref q5_288])), (q0_278, .inl (k0_279, 6, .inl (fun _ => 0))), (q1_280, .inl (k1_281, 6, .inl (fun _ => 0))), (q2_282, .inl (k2_283, 6, .inl (fun _ => 0))), (q3_284, .inl (k3_285, 4, .inl (fun _ => 0))), (q4_286, .inl (k4_287, 4, .inl (fun _ => 0))), (q5_288, .inl (k5_289, 6, .inl (fun _ => 0)))] := hD
  refine va_astq hx hb hK hP hD hS 1 0 2 8 rfl rfl rfl rfl (show vp_in 17 20 from (by decide : ¬ ((17 : Int32) < 0 ∨ 20 ≤ (17 : Int32).toNatClampNeg))) dX4_init_33 (fun H locs hP hD hS => ?_)
  have hP : va_P (dC, dI) vwCl [(h0, .inr (4, [.ref q_1, .int 0, .int 0])), (q_1, .inl (k_2, 20, .inr (.inr (.inr (.inr (va_up g_274 17 (some q_276))))))), (q_276, .inr (8, [.int 0, .int (-1), .int (-1), .int 0, .int 0, .int 0, .int 0, .ref q0_278, .ref q1_280, .ref q2_282, .ref q3_284, .ref q4_286, .ref q5_288])), (q0_278, .inl (k0_279, 6, .inl (fun _ => 0))), (q1_280, .inl (k1_281, 6, .inl (fun _ => 0))), (q2_282, .inl (k2_283, 6, .inl (fun _ => 0))), (q3_284, .inl (k3_285, 4, .inl (fun _ => 0))), (q4_286, .inl (k4_287, 4, .inl (fun _ => 0))), (q5_288, .inl (k5_289, 6, .inl (fun _ => 0)))] H := hP
  have hD : va_D A [(h0, .inr (4, [.ref q_1, .int 0, .int 0])), (q_1, .inl (k_2, 20, .inr (.inr (.inr (.inr (va_up g_274 17 (some q_276))))))), (q_276, .inr (8, [.int 0, .int (-1), .int (-1), .int 0, .int 0, .int 0, .int 0, .ref q0_278, .ref q1_280, .ref q2_282, .ref q3_284, .ref q4_286, .ref q5_288])), (q0_278, .inl (k0_279, 6, .inl (fun _ => 0))), (q1_280, .inl (k1_281, 6, .inl (fun _ => 0))), (q2_282, .inl (k2_283, 6, .inl (fun _ => 0))), (q3_284, .inl (k3_285, 4, .inl (fun _ => 0))), (q4_286, .inl (k4_287, 4, .inl (fun _ => 0))), (q5_288, .inl (k5_289, 6, .inl (fun _ => 0)))] := hD
  refine lv_iinc (v := 18) (lv' := [(1, .int 18), (0, .ref h0)]) hx hb dX4_init_34 hl (k := 0) rfl (by decide) (by decide) rfl (fun ls hl => ?_)
  refine lv_goto (tgt := 15) hx hb dX4_init_37 (by decide) ?_
  have hP := hP.sub (ws' := [(h0, .inr (4, [.ref q_1, .int 0, .int 0])), (q_1, .inl (k_2, 20, .inr (.inr (.inr (.inr (va_up g_274 17 (some q_276)))))))]) [0, 1] rfl
  have hD := hD.sub (ws' := [(h0, .inr (4, [.ref q_1, .int 0, .int 0])), (q_1, .inl (k_2, 20, .inr (.inr (.inr (.inr (va_up g_274 17 (some q_276)))))))]) [0, 1] (by decide) rfl
  have hK := hK.sub (tys' := [(k_2, .object RX8)]) [0] rfl
  generalize va_up g_274 17 (some q_276) = g_290 at hP hD
  refine lv_iload_n hx hb dX4_init_15 rfl (lv_at hl 0 rfl) ?_
  refine lv_bipush (v := 20) hx hb dX4_init_16 (by decide) ?_
  refine lv_icmp_ge (tgt := 40) hx hb dX4_init_18 (by decide) (fun c_291 => absurd c_291 (by decide)) (fun c_291 => ?_)
  refine lv_aload_n hx hb dX4_init_21 rfl (lv_at hl 1 rfl) ?_
  refine va_get (D := (dC, dI)) (ci := 4) (v := .ref q_1) (C := RX4) (T := TX4) (N := 3) hx hb hts iX4 hown hK hP 0 rfl rfl 0 (by decide) (hts _ tw_327) (fun _ h9 => h9) rfl dX4_init_22 ?_
  refine lv_iload_n hx hb dX4_init_25 rfl (lv_at hl 0 rfl) ?_
  refine va_new (ci := 8) (fs := [.int 0, .int 0, .int 0, .int 0, .int 0, .int 0, .int 0, .null, .null, .null, .null, .null, .null]) (C := RX8) (T := TX8) (N := 13) hx hb hts iX8 tyX8 tyX8_ok hown (hts _ tw_324) (hts _ tw_215) (hts _ tw_8) hK hP hD hS hA rfl (dfX8) (Nat.le_of_ble_eq_true rfl) (Nat.le_of_ble_eq_true rfl) dX4_init_26 (fun q_292 H hP hD hS => ?_)
  have hP : va_P (dC, dI) vwCl [(h0, .inr (4, [.ref q_1, .int 0, .int 0])), (q_1, .inl (k_2, 20, .inr (.inr (.inr (.inr g_290))))), (q_292, .inr (8, [.int 0, .int 0, .int 0, .int 0, .int 0, .int 0, .int 0, .null, .null, .null, .null, .null, .null]))] H := hP
  have hD : va_D A [(h0, .inr (4, [.ref q_1, .int 0, .int 0])), (q_1, .inl (k_2, 20, .inr (.inr (.inr (.inr g_290))))), (q_292, .inr (8, [.int 0, .int 0, .int 0, .int 0, .int 0, .int 0, .int 0, .null, .null, .null, .null, .null, .null]))] := hD
  refine lv_dup hx hb dX4_init_29 rfl ?_
  have hPc := hP.sub (ws' := [(q_292, .inr (8, [.int 0, .int 0, .int 0, .int 0, .int 0, .int 0, .int 0, .null, .null, .null, .null, .null, .null]))]) [2] rfl
  have hDc := hD.sub (ws' := [(q_292, .inr (8, [.int 0, .int 0, .int 0, .int 0, .int 0, .int 0, .int 0, .null, .null, .null, .null, .null, .null]))]) [2] (by decide) rfl
  have hKc := hK.sub (tys' := []) [] rfl
  have hFc := va_free (wc := [(q_292, .inr (8, [.int 0, .int 0, .int 0, .int 0, .int 0, .int 0, .int 0, .null, .null, .null, .null, .null, .null]))]) hD hS hA [2] rfl
  refine va_callv (va_runI (As := []) (rest := [.ref q_292, .int 18, .ref q_1]) ⟨hx, hb, hml, hown, hts⟩ (c_Standing_init l dC dI q_292  H.size) (cwI 0 hts (gU tw_218) rfl rfl rfl (hts _ tw_8) (hts _ tw_326) (hts _ tw_217) rfl (by decide +kernel) ⟨(Nat.le_of_ble_eq_true rfl), (Nat.le_of_ble_eq_true rfl)⟩) ⟨cPre.blind, cPre.use hPc hKc hDc hE⟩ rfl rfl hl.1 rfl (lv_room (Nat.le_of_ble_eq_true rfl)) dX4_init_30 ⟨(Nat.le_of_ble_eq_true rfl), (Nat.le_of_ble_eq_true rfl)⟩) hS (fun q _ h => hFc q h) hFc (fun u t H1 locs ht hvm hw hB hz1 hk1 hS => ?_)
  obtain ⟨q0_294, k0_295, q1_296, k1_297, q2_298, k2_299, q3_300, k3_301, q4_302, k4_303, q5_304, k5_305, hP1, hK1, hD1⟩ := hB
  rw [ht] at hP1
  obtain ⟨hP, hD⟩ := va_join (wr := [(h0, .inr (4, [.ref q_1, .int 0, .int 0])), (q_1, .inl (k_2, 20, .inr (.inr (.inr (.inr g_290)))))]) (w1 := [(q_292, .inr (8, [.int 0, .int (-1), .int (-1), .int 0, .int 0, .int 0, .int 0, .ref q0_294, .ref q1_296, .ref q2_298, .ref q3_300, .ref q4_302, .ref q5_304])), (q0_294, .inl (k0_295, 6, .inl (fun _ => 0))), (q1_296, .inl (k1_297, 6, .inl (fun _ => 0))), (q2_298, .inl (k2_299, 6, .inl (fun _ => 0))), (q3_300, .inl (k3_301, 4, .inl (fun _ => 0))), (q4_302, .inl (k4_303, 4, .inl (fun _ => 0))), (q5_304, .inl (k5_305, 6, .inl (fun _ => 0)))]) hP hD [2] [0, 1] rfl rfl (by decide) (by decide) hk1 hFc hP1 hD1
  have hK1 := va_K.moved hvm.symm hK1
  have hK := hK.app (hK1.sub (tys' := [(k0_295, .int), (k1_297, .int), (k2_299, .int), (k3_301, .int), (k4_303, .int), (k5_305, .int)]) [0, 1, 2, 3, 4, 5] rfl)
  have hK : va_K (dC, dI) vwCl [(k_2, .object RX8), (k0_295, .int), (k1_297, .int), (k2_299, .int), (k3_301, .int), (k4_303, .int), (k5_305, .int)] s := hK
  generalize H1 = H at hP hS ⊢
  have hP : va_P (dC, dI) vwCl [(h0, .inr (4, [.ref q_1, .int 0, .int 0])), (q_1, .inl (k_2, 20, .inr (.inr (.inr (.inr g_290))))), (q_292, .inr (8, [.int 0, .int (-1), .int (-1), .int 0, .int 0, .int 0, .int 0, .ref q0_294, .ref q1_296, .ref q2_298, .ref q3_300, .ref q4_302, .ref q5_304])), (q0_294, .inl (k0_295, 6, .inl (fun _ => 0))), (q1_296, .inl (k1_297, 6, .inl (fun _ => 0))), (q2_298, .inl (k2_299, 6, .inl (fun _ => 0))), (q3_300, .inl (k3_301, 4, .inl (fun _ => 0))), (q4_302, .inl (k4_303, 4, .inl (fun _ => 0))), (q5_304, .inl (k5_305, 6, .inl (fun _ => 0)))] H := hP
  have hD : va_D A [(h0, .inr (4, [.ref q_1, .int 0, .int 0])), (q_1, .inl (k_2, 20, .inr (.inr (.inr (.inr g_290))))), (q_292, .inr (8, [.int 0, .int (-1), .int (-1), .int 0, .int 0, .int 0, .int 0, .ref q0_294, .ref q1_296, .ref q2_298, .ref q3_300, .ref q4_302, .ref q5_304])), (q0_294, .inl (k0_295, 6, .inl (fun _ => 0))), (q1_296, .inl (k1_297, 6, .inl (fun _ => 0))), (q2_298, .inl (k2_299, 6, .inl (fun _ => 0))), (q3_300, .inl (k3_301, 4, .inl (fun _ => 0))), (q4_302, .inl (k4_303, 4, .inl (fun _ => 0))), (q5_304, .inl (k5_305, 6, .inl (fun _ => 0)))] := hD
  refine va_astq hx hb hK hP hD hS 1 0 2 8 rfl rfl rfl rfl (show vp_in 18 20 from (by decide : ¬ ((18 : Int32) < 0 ∨ 20 ≤ (18 : Int32).toNatClampNeg))) dX4_init_33 (fun H locs hP hD hS => ?_)
  have hP : va_P (dC, dI) vwCl [(h0, .inr (4, [.ref q_1, .int 0, .int 0])), (q_1, .inl (k_2, 20, .inr (.inr (.inr (.inr (va_up g_290 18 (some q_292))))))), (q_292, .inr (8, [.int 0, .int (-1), .int (-1), .int 0, .int 0, .int 0, .int 0, .ref q0_294, .ref q1_296, .ref q2_298, .ref q3_300, .ref q4_302, .ref q5_304])), (q0_294, .inl (k0_295, 6, .inl (fun _ => 0))), (q1_296, .inl (k1_297, 6, .inl (fun _ => 0))), (q2_298, .inl (k2_299, 6, .inl (fun _ => 0))), (q3_300, .inl (k3_301, 4, .inl (fun _ => 0))), (q4_302, .inl (k4_303, 4, .inl (fun _ => 0))), (q5_304, .inl (k5_305, 6, .inl (fun _ => 0)))] H := hP
  have hD : va_D A [(h0, .inr (4, [.ref q_1, .int 0, .int 0])), (q_1, .inl (k_2, 20, .inr (.inr (.inr (.inr (va_up g_290 18 (some q_292))))))), (q_292, .inr (8, [.int 0, .int (-1), .int (-1), .int 0, .int 0, .int 0, .int 0, .ref q0_294, .ref q1_296, .ref q2_298, .ref q3_300, .ref q4_302, .ref q5_304])), (q0_294, .inl (k0_295, 6, .inl (fun _ => 0))), (q1_296, .inl (k1_297, 6, .inl (fun _ => 0))), (q2_298, .inl (k2_299, 6, .inl (fun _ => 0))), (q3_300, .inl (k3_301, 4, .inl (fun _ => 0))), (q4_302, .inl (k4_303, 4, .inl (fun _ => 0))), (q5_304, .inl (k5_305, 6, .inl (fun _ => 0)))] := hD
  refine lv_iinc (v := 19) (lv' := [(1, .int 19), (0, .ref h0)]) hx hb dX4_init_34 hl (k := 0) rfl (by decide) (by decide) rfl (fun ls hl => ?_)
  refine lv_goto (tgt := 15) hx hb dX4_init_37 (by decide) ?_
  have hP := hP.sub (ws' := [(h0, .inr (4, [.ref q_1, .int 0, .int 0])), (q_1, .inl (k_2, 20, .inr (.inr (.inr (.inr (va_up g_290 18 (some q_292)))))))]) [0, 1] rfl
  have hD := hD.sub (ws' := [(h0, .inr (4, [.ref q_1, .int 0, .int 0])), (q_1, .inl (k_2, 20, .inr (.inr (.inr (.inr (va_up g_290 18 (some q_292)))))))]) [0, 1] (by decide) rfl
  have hK := hK.sub (tys' := [(k_2, .object RX8)]) [0] rfl
  generalize va_up g_290 18 (some q_292) = g_306 at hP hD
  refine lv_iload_n hx hb dX4_init_15 rfl (lv_at hl 0 rfl) ?_
  refine lv_bipush (v := 20) hx hb dX4_init_16 (by decide) ?_
  refine lv_icmp_ge (tgt := 40) hx hb dX4_init_18 (by decide) (fun c_307 => absurd c_307 (by decide)) (fun c_307 => ?_)
  refine lv_aload_n hx hb dX4_init_21 rfl (lv_at hl 1 rfl) ?_
  refine va_get (D := (dC, dI)) (ci := 4) (v := .ref q_1) (C := RX4) (T := TX4) (N := 3) hx hb hts iX4 hown hK hP 0 rfl rfl 0 (by decide) (hts _ tw_327) (fun _ h9 => h9) rfl dX4_init_22 ?_
  refine lv_iload_n hx hb dX4_init_25 rfl (lv_at hl 0 rfl) ?_
  refine va_new (ci := 8) (fs := [.int 0, .int 0, .int 0, .int 0, .int 0, .int 0, .int 0, .null, .null, .null, .null, .null, .null]) (C := RX8) (T := TX8) (N := 13) hx hb hts iX8 tyX8 tyX8_ok hown (hts _ tw_324) (hts _ tw_215) (hts _ tw_8) hK hP hD hS hA rfl (dfX8) (Nat.le_of_ble_eq_true rfl) (Nat.le_of_ble_eq_true rfl) dX4_init_26 (fun q_308 H hP hD hS => ?_)
  have hP : va_P (dC, dI) vwCl [(h0, .inr (4, [.ref q_1, .int 0, .int 0])), (q_1, .inl (k_2, 20, .inr (.inr (.inr (.inr g_306))))), (q_308, .inr (8, [.int 0, .int 0, .int 0, .int 0, .int 0, .int 0, .int 0, .null, .null, .null, .null, .null, .null]))] H := hP
  have hD : va_D A [(h0, .inr (4, [.ref q_1, .int 0, .int 0])), (q_1, .inl (k_2, 20, .inr (.inr (.inr (.inr g_306))))), (q_308, .inr (8, [.int 0, .int 0, .int 0, .int 0, .int 0, .int 0, .int 0, .null, .null, .null, .null, .null, .null]))] := hD
  refine lv_dup hx hb dX4_init_29 rfl ?_
  have hPc := hP.sub (ws' := [(q_308, .inr (8, [.int 0, .int 0, .int 0, .int 0, .int 0, .int 0, .int 0, .null, .null, .null, .null, .null, .null]))]) [2] rfl
  have hDc := hD.sub (ws' := [(q_308, .inr (8, [.int 0, .int 0, .int 0, .int 0, .int 0, .int 0, .int 0, .null, .null, .null, .null, .null, .null]))]) [2] (by decide) rfl
  have hKc := hK.sub (tys' := []) [] rfl
  have hFc := va_free (wc := [(q_308, .inr (8, [.int 0, .int 0, .int 0, .int 0, .int 0, .int 0, .int 0, .null, .null, .null, .null, .null, .null]))]) hD hS hA [2] rfl
  refine va_callv (va_runI (As := []) (rest := [.ref q_308, .int 19, .ref q_1]) ⟨hx, hb, hml, hown, hts⟩ (c_Standing_init l dC dI q_308  H.size) (cwI 0 hts (gU tw_218) rfl rfl rfl (hts _ tw_8) (hts _ tw_326) (hts _ tw_217) rfl (by decide +kernel) ⟨(Nat.le_of_ble_eq_true rfl), (Nat.le_of_ble_eq_true rfl)⟩) ⟨cPre.blind, cPre.use hPc hKc hDc hE⟩ rfl rfl hl.1 rfl (lv_room (Nat.le_of_ble_eq_true rfl)) dX4_init_30 ⟨(Nat.le_of_ble_eq_true rfl), (Nat.le_of_ble_eq_true rfl)⟩) hS (fun q _ h => hFc q h) hFc (fun u t H1 locs ht hvm hw hB hz1 hk1 hS => ?_)
  obtain ⟨q0_310, k0_311, q1_312, k1_313, q2_314, k2_315, q3_316, k3_317, q4_318, k4_319, q5_320, k5_321, hP1, hK1, hD1⟩ := hB
  rw [ht] at hP1
  obtain ⟨hP, hD⟩ := va_join (wr := [(h0, .inr (4, [.ref q_1, .int 0, .int 0])), (q_1, .inl (k_2, 20, .inr (.inr (.inr (.inr g_306)))))]) (w1 := [(q_308, .inr (8, [.int 0, .int (-1), .int (-1), .int 0, .int 0, .int 0, .int 0, .ref q0_310, .ref q1_312, .ref q2_314, .ref q3_316, .ref q4_318, .ref q5_320])), (q0_310, .inl (k0_311, 6, .inl (fun _ => 0))), (q1_312, .inl (k1_313, 6, .inl (fun _ => 0))), (q2_314, .inl (k2_315, 6, .inl (fun _ => 0))), (q3_316, .inl (k3_317, 4, .inl (fun _ => 0))), (q4_318, .inl (k4_319, 4, .inl (fun _ => 0))), (q5_320, .inl (k5_321, 6, .inl (fun _ => 0)))]) hP hD [2] [0, 1] rfl rfl (by decide) (by decide) hk1 hFc hP1 hD1
  have hK1 := va_K.moved hvm.symm hK1
  have hK := hK.app (hK1.sub (tys' := [(k0_311, .int), (k1_313, .int), (k2_315, .int), (k3_317, .int), (k4_319, .int), (k5_321, .int)]) [0, 1, 2, 3, 4, 5] rfl)
  have hK : va_K (dC, dI) vwCl [(k_2, .object RX8), (k0_311, .int), (k1_313, .int), (k2_315, .int), (k3_317, .int), (k4_319, .int), (k5_321, .int)] s := hK
  generalize H1 = H at hP hS ⊢
  have hP : va_P (dC, dI) vwCl [(h0, .inr (4, [.ref q_1, .int 0, .int 0])), (q_1, .inl (k_2, 20, .inr (.inr (.inr (.inr g_306))))), (q_308, .inr (8, [.int 0, .int (-1), .int (-1), .int 0, .int 0, .int 0, .int 0, .ref q0_310, .ref q1_312, .ref q2_314, .ref q3_316, .ref q4_318, .ref q5_320])), (q0_310, .inl (k0_311, 6, .inl (fun _ => 0))), (q1_312, .inl (k1_313, 6, .inl (fun _ => 0))), (q2_314, .inl (k2_315, 6, .inl (fun _ => 0))), (q3_316, .inl (k3_317, 4, .inl (fun _ => 0))), (q4_318, .inl (k4_319, 4, .inl (fun _ => 0))), (q5_320, .inl (k5_321, 6, .inl (fun _ => 0)))] H := hP
  have hD : va_D A [(h0, .inr (4, [.ref q_1, .int 0, .int 0])), (q_1, .inl (k_2, 20, .inr (.inr (.inr (.inr g_306))))), (q_308, .inr (8, [.int 0, .int (-1), .int (-1), .int 0, .int 0, .int 0, .int 0, .ref q0_310, .ref q1_312, .ref q2_314, .ref q3_316, .ref q4_318, .ref q5_320])), (q0_310, .inl (k0_311, 6, .inl (fun _ => 0))), (q1_312, .inl (k1_313, 6, .inl (fun _ => 0))), (q2_314, .inl (k2_315, 6, .inl (fun _ => 0))), (q3_316, .inl (k3_317, 4, .inl (fun _ => 0))), (q4_318, .inl (k4_319, 4, .inl (fun _ => 0))), (q5_320, .inl (k5_321, 6, .inl (fun _ => 0)))] := hD
  refine va_astq hx hb hK hP hD hS 1 0 2 8 rfl rfl rfl rfl (show vp_in 19 20 from (by decide : ¬ ((19 : Int32) < 0 ∨ 20 ≤ (19 : Int32).toNatClampNeg))) dX4_init_33 (fun H locs hP hD hS => ?_)
  have hP : va_P (dC, dI) vwCl [(h0, .inr (4, [.ref q_1, .int 0, .int 0])), (q_1, .inl (k_2, 20, .inr (.inr (.inr (.inr (va_up g_306 19 (some q_308))))))), (q_308, .inr (8, [.int 0, .int (-1), .int (-1), .int 0, .int 0, .int 0, .int 0, .ref q0_310, .ref q1_312, .ref q2_314, .ref q3_316, .ref q4_318, .ref q5_320])), (q0_310, .inl (k0_311, 6, .inl (fun _ => 0))), (q1_312, .inl (k1_313, 6, .inl (fun _ => 0))), (q2_314, .inl (k2_315, 6, .inl (fun _ => 0))), (q3_316, .inl (k3_317, 4, .inl (fun _ => 0))), (q4_318, .inl (k4_319, 4, .inl (fun _ => 0))), (q5_320, .inl (k5_321, 6, .inl (fun _ => 0)))] H := hP
  have hD : va_D A [(h0, .inr (4, [.ref q_1, .int 0, .int 0])), (q_1, .inl (k_2, 20, .inr (.inr (.inr (.inr (va_up g_306 19 (some q_308))))))), (q_308, .inr (8, [.int 0, .int (-1), .int (-1), .int 0, .int 0, .int 0, .int 0, .ref q0_310, .ref q1_312, .ref q2_314, .ref q3_316, .ref q4_318, .ref q5_320])), (q0_310, .inl (k0_311, 6, .inl (fun _ => 0))), (q1_312, .inl (k1_313, 6, .inl (fun _ => 0))), (q2_314, .inl (k2_315, 6, .inl (fun _ => 0))), (q3_316, .inl (k3_317, 4, .inl (fun _ => 0))), (q4_318, .inl (k4_319, 4, .inl (fun _ => 0))), (q5_320, .inl (k5_321, 6, .inl (fun _ => 0)))] := hD
  refine lv_iinc (v := 20) (lv' := [(1, .int 20), (0, .ref h0)]) hx hb dX4_init_34 hl (k := 0) rfl (by decide) (by decide) rfl (fun ls hl => ?_)
  refine lv_goto (tgt := 15) hx hb dX4_init_37 (by decide) ?_
  have hP := hP.sub (ws' := [(h0, .inr (4, [.ref q_1, .int 0, .int 0])), (q_1, .inl (k_2, 20, .inr (.inr (.inr (.inr (va_up g_306 19 (some q_308)))))))]) [0, 1] rfl
  have hD := hD.sub (ws' := [(h0, .inr (4, [.ref q_1, .int 0, .int 0])), (q_1, .inl (k_2, 20, .inr (.inr (.inr (.inr (va_up g_306 19 (some q_308)))))))]) [0, 1] (by decide) rfl
  have hK := hK.sub (tys' := [(k_2, .object RX8)]) [0] rfl
  generalize va_up g_306 19 (some q_308) = g_322 at hP hD
  refine lv_iload_n hx hb dX4_init_15 rfl (lv_at hl 0 rfl) ?_
  refine lv_bipush (v := 20) hx hb dX4_init_16 (by decide) ?_
  refine lv_icmp_ge (tgt := 40) hx hb dX4_init_18 (by decide) (fun c_323 => ?_) (fun c_323 => absurd (by decide) c_323)
  have hP9 := hP.sub (ws' := [(h0, .inr (4, [.ref q_1, .int 0, .int 0]))]) [0] rfl
  have hD9 := hD.sub (ws' := [(h0, .inr (4, [.ref q_1, .int 0, .int 0]))]) [0] (by decide) rfl
  have hK9 := hK.sub (tys' := []) [] rfl
  refine W.widen (k := 141) (n := 920) (Nat.le_of_ble_eq_true rfl) (Nat.le_of_ble_eq_true rfl) ?_
  exact W.vret hx hb hr (fun t ht hW => ⟨⟨(), rfl, trivial, ⟨q_1, by rw [ht]; exact hP9, va_K.moved hW.alike hK9, hD9⟩⟩, hS.F ht⟩) hS.2.2 dX4_init_40
set_option maxHeartbeats 4000000 in
set_option maxRecDepth 100000 in
/-- Poll() -/
theorem c_Poll_init (l : Launch) (dC : Nat → ClassId) (dI : Nat → Nat → Nat) (h0 : Nat) (sz : Nat) : Met l yX5_init (ws_u yX5_init cX5_init 1 none) ({ frames := 1, cells := 5, slots := 84, locals := 28 }) (va_Pc [.ref h0] (cPre (dC, dI) [] [(h0, .inr (5, [.int 0, .int 0, .null, .null, .null, .int 0, .null, .null]))] sz)) (va_Qv (fun _ : Unit => True) (fun _ t => cPost (dC, dI) [] [] (va_A [(h0, .inr (5, [.int 0, .int 0, .null, .null, .null, .int 0, .null, .null]))] sz) t) (va_A [(h0, .inr (5, [.int 0, .int 0, .null, .null, .null, .int 0, .null, .null]))] sz)) 5 84 (va_A [(h0, .inr (5, [.int 0, .int 0, .null, .null, .null, .int 0, .null, .null]))] sz) := by
  refine Met.ofW (cc := cX5_init) (maxL := 1) (ret := none) (by decide) rfl ?_
  intro p e s m args below meth c s₁ B hml hv
  obtain ⟨rfl, hsz, hP, hK, hD0, hE⟩ := hv
  have hx := B.exec
  have hb := B.bytes
  have hr := B.returns
  have hts0 := atoms_spec (ws := ws_u yX5_init cX5_init 1 none) B.pre
  have hts : ∀ w ∈ gT, w.before _ s = true := fun w h => hts0 w (List.mem_cons_of_mem _ h)
  have hown : s.vm.findClass RX5 = some m.cls := findClass_of_methodNamed B.named
  have hlocks := B.notSynchronized
  have hin : meth.name = "<init>" := (name_of_methodNamed B.named B.method).1
  subst hsz
  have hD := hD0.self (sz := s.heap.size)
  generalize hAe : va_A [(h0, .inr (5, [.int 0, .int 0, .null, .null, .null, .int 0, .null, .null]))] s.heap.size = A at hD ⊢
  have hA : ∀ q : Nat, s.heap.size ≤ q → A q := fun q h => by rw [← hAe]; exact Or.inr h
  have hS : va_S A s.heap s.heap [] := va_S.rf
  have hl := lv_entry ([.ref h0]) (n := 1) (Nat.le_of_ble_eq_true rfl)
  rw [lg_entry_eq]
  generalize (lg_sl ([.ref h0]) ++ List.replicate (1 - (lg_sl ([.ref h0])).length) Slot.unset).toArray = ls at hl ⊢
  have hl : lv_has ls 1 [(0, .ref h0)] := hl
  have hP : va_P (dC, dI) vwCl [(h0, .inr (5, [.int 0, .int 0, .null, .null, .null, .int 0, .null, .null]))] s.heap := hP
  try clear hAe
  refine lv_aload_n hx hb dX5_init_0 rfl (lv_at hl 0 rfl) ?_
  refine W.objInit hx hb hown (hts _ tw_343) (hts _ tw_28) (hts _ tw_29) rfl (by rw [hml]; exact hl.1) rfl dX5_init_1 (Nat.le_of_ble_eq_true rfl) (Nat.le_of_ble_eq_true rfl) ?_
  refine W.eq (g2 := F0 m 4 ls []) rfl ?_
  refine lv_aload_n hx hb dX5_init_4 rfl (lv_at hl 0 rfl) ?_
  refine lv_bipush (v := 36) hx hb dX5_init_5 (by decide) ?_
  refine va_newa (D := (dC, dI)) (a0 := (36, .inr (.inl (fun _ => 0)))) (N' := 36) (ty := .long) (atype := .long) hx hb (hts _ tw_205) rfl hK hP hD hS hA (fun _ => rfl) (by decide) (by decide) (Nat.le_of_ble_eq_true rfl) (Nat.le_of_ble_eq_true rfl) (Nat.le_of_ble_eq_true rfl) dX5_init_7 (fun q_1 k_2 H hK hP hD hS => ?_)
  have hK : va_K (dC, dI) vwCl [(k_2, .long)] s := hK
  have hP : va_P (dC, dI) vwCl [(h0, .inr (5, [.int 0, .int 0, .null, .null, .null, .int 0, .null, .null])), (q_1, .inl (k_2, 36, .inr (.inl (fun _ => 0))))] H := hP
  have hD : va_D A [(h0, .inr (5, [.int 0, .int 0, .null, .null, .null, .int 0, .null, .null])), (q_1, .inl (k_2, 36, .inr (.inl (fun _ => 0))))] := hD
  refine va_putF (D := (dC, dI)) (ci := 5) (v := .ref q_1) (C := RX5) (T := TX5) (N := 8) hx hb hts iX5 tyX5 tyX5_ok nmX5 hown hK hP hD hS 0 rfl rfl 2 (by decide) (hts _ tw_346) (fun _ h9 => h9) rfl hin rfl (tyX5_ok 2 (by decide)) rfl rfl (Nat.le_of_ble_eq_true rfl) dX5_init_9 (fun H locs hP hD hS => ?_)
  have hP : va_P (dC, dI) vwCl [(h0, .inr (5, [.int 0, .int 0, .ref q_1, .null, .null, .int 0, .null, .null])), (q_1, .inl (k_2, 36, .inr (.inl (fun _ => 0))))] H := hP
  have hD : va_D A [(h0, .inr (5, [.int 0, .int 0, .ref q_1, .null, .null, .int 0, .null, .null])), (q_1, .inl (k_2, 36, .inr (.inl (fun _ => 0))))] := hD
  refine lv_aload_n hx hb dX5_init_12 rfl (lv_at hl 0 rfl) ?_
  refine lv_bipush (v := 6) hx hb dX5_init_13 (by decide) ?_
  refine va_newa (D := (dC, dI)) (a0 := (6, .inl (fun _ => 0))) (N' := 6) (ty := .int) (atype := .int) hx hb (hts _ tw_154) rfl hK hP hD hS hA (fun _ => rfl) (by decide) (by decide) (Nat.le_of_ble_eq_true rfl) (Nat.le_of_ble_eq_true rfl) (Nat.le_of_ble_eq_true rfl) dX5_init_15 (fun q_3 k_4 H hK hP hD hS => ?_)
  have hK : va_K (dC, dI) vwCl [(k_2, .long), (k_4, .int)] s := hK
  have hP : va_P (dC, dI) vwCl [(h0, .inr (5, [.int 0, .int 0, .ref q_1, .null, .null, .int 0, .null, .null])), (q_1, .inl (k_2, 36, .inr (.inl (fun _ => 0)))), (q_3, .inl (k_4, 6, .inl (fun _ => 0)))] H := hP
  have hD : va_D A [(h0, .inr (5, [.int 0, .int 0, .ref q_1, .null, .null, .int 0, .null, .null])), (q_1, .inl (k_2, 36, .inr (.inl (fun _ => 0)))), (q_3, .inl (k_4, 6, .inl (fun _ => 0)))] := hD
  refine va_putF (D := (dC, dI)) (ci := 5) (v := .ref q_3) (C := RX5) (T := TX5) (N := 8) hx hb hts iX5 tyX5 tyX5_ok nmX5 hown hK hP hD hS 0 rfl rfl 3 (by decide) (hts _ tw_347) (fun _ h9 => h9) rfl hin rfl (tyX5_ok 3 (by decide)) rfl rfl (Nat.le_of_ble_eq_true rfl) dX5_init_17 (fun H locs hP hD hS => ?_)
  have hP : va_P (dC, dI) vwCl [(h0, .inr (5, [.int 0, .int 0, .ref q_1, .ref q_3, .null, .int 0, .null, .null])), (q_1, .inl (k_2, 36, .inr (.inl (fun _ => 0)))), (q_3, .inl (k_4, 6, .inl (fun _ => 0)))] H := hP
  have hD : va_D A [(h0, .inr (5, [.int 0, .int 0, .ref q_1, .ref q_3, .null, .int 0, .null, .null])), (q_1, .inl (k_2, 36, .inr (.inl (fun _ => 0)))), (q_3, .inl (k_4, 6, .inl (fun _ => 0)))] := hD
  refine lv_aload_n hx hb dX5_init_20 rfl (lv_at hl 0 rfl) ?_
  refine lv_bipush (v := 6) hx hb dX5_init_21 (by decide) ?_
  refine va_newa (D := (dC, dI)) (a0 := (6, .inl (fun _ => 0))) (N' := 6) (ty := .int) (atype := .int) hx hb (hts _ tw_154) rfl hK hP hD hS hA (fun _ => rfl) (by decide) (by decide) (Nat.le_of_ble_eq_true rfl) (Nat.le_of_ble_eq_true rfl) (Nat.le_of_ble_eq_true rfl) dX5_init_23 (fun q_5 k_6 H hK hP hD hS => ?_)
  have hK : va_K (dC, dI) vwCl [(k_2, .long), (k_4, .int), (k_6, .int)] s := hK
  have hP : va_P (dC, dI) vwCl [(h0, .inr (5, [.int 0, .int 0, .ref q_1, .ref q_3, .null, .int 0, .null, .null])), (q_1, .inl (k_2, 36, .inr (.inl (fun _ => 0)))), (q_3, .inl (k_4, 6, .inl (fun _ => 0))), (q_5, .inl (k_6, 6, .inl (fun _ => 0)))] H := hP
  have hD : va_D A [(h0, .inr (5, [.int 0, .int 0, .ref q_1, .ref q_3, .null, .int 0, .null, .null])), (q_1, .inl (k_2, 36, .inr (.inl (fun _ => 0)))), (q_3, .inl (k_4, 6, .inl (fun _ => 0))), (q_5, .inl (k_6, 6, .inl (fun _ => 0)))] := hD
  refine va_putF (D := (dC, dI)) (ci := 5) (v := .ref q_5) (C := RX5) (T := TX5) (N := 8) hx hb hts iX5 tyX5 tyX5_ok nmX5 hown hK hP hD hS 0 rfl rfl 4 (by decide) (hts _ tw_349) (fun _ h9 => h9) rfl hin rfl (tyX5_ok 4 (by decide)) rfl rfl (Nat.le_of_ble_eq_true rfl) dX5_init_25 (fun H locs hP hD hS => ?_)
  have hP : va_P (dC, dI) vwCl [(h0, .inr (5, [.int 0, .int 0, .ref q_1, .ref q_3, .ref q_5, .int 0, .null, .null])), (q_1, .inl (k_2, 36, .inr (.inl (fun _ => 0)))), (q_3, .inl (k_4, 6, .inl (fun _ => 0))), (q_5, .inl (k_6, 6, .inl (fun _ => 0)))] H := hP
  have hD : va_D A [(h0, .inr (5, [.int 0, .int 0, .ref q_1, .ref q_3, .ref q_5, .int 0, .null, .null])), (q_1, .inl (k_2, 36, .inr (.inl (fun _ => 0)))), (q_3, .inl (k_4, 6, .inl (fun _ => 0))), (q_5, .inl (k_6, 6, .inl (fun _ => 0)))] := hD
  refine lv_aload_n hx hb dX5_init_28 rfl (lv_at hl 0 rfl) ?_
  refine lv_bipush (v := 11) hx hb dX5_init_29 (by decide) ?_
  refine va_newa (D := (dC, dI)) (a0 := (11, .inr (.inl (fun _ => 0)))) (N' := 11) (ty := .long) (atype := .long) hx hb (hts _ tw_205) rfl hK hP hD hS hA (fun _ => rfl) (by decide) (by decide) (Nat.le_of_ble_eq_true rfl) (Nat.le_of_ble_eq_true rfl) (Nat.le_of_ble_eq_true rfl) dX5_init_31 (fun q_7 k_8 H hK hP hD hS => ?_)
  have hK : va_K (dC, dI) vwCl [(k_2, .long), (k_4, .int), (k_6, .int), (k_8, .long)] s := hK
  have hP : va_P (dC, dI) vwCl [(h0, .inr (5, [.int 0, .int 0, .ref q_1, .ref q_3, .ref q_5, .int 0, .null, .null])), (q_1, .inl (k_2, 36, .inr (.inl (fun _ => 0)))), (q_3, .inl (k_4, 6, .inl (fun _ => 0))), (q_5, .inl (k_6, 6, .inl (fun _ => 0))), (q_7, .inl (k_8, 11, .inr (.inl (fun _ => 0))))] H := hP
  have hD : va_D A [(h0, .inr (5, [.int 0, .int 0, .ref q_1, .ref q_3, .ref q_5, .int 0, .null, .null])), (q_1, .inl (k_2, 36, .inr (.inl (fun _ => 0)))), (q_3, .inl (k_4, 6, .inl (fun _ => 0))), (q_5, .inl (k_6, 6, .inl (fun _ => 0))), (q_7, .inl (k_8, 11, .inr (.inl (fun _ => 0))))] := hD
  refine va_putF (D := (dC, dI)) (ci := 5) (v := .ref q_7) (C := RX5) (T := TX5) (N := 8) hx hb hts iX5 tyX5 tyX5_ok nmX5 hown hK hP hD hS 0 rfl rfl 6 (by decide) (hts _ tw_354) (fun _ h9 => h9) rfl hin rfl (tyX5_ok 6 (by decide)) rfl rfl (Nat.le_of_ble_eq_true rfl) dX5_init_33 (fun H locs hP hD hS => ?_)
  have hP : va_P (dC, dI) vwCl [(h0, .inr (5, [.int 0, .int 0, .ref q_1, .ref q_3, .ref q_5, .int 0, .ref q_7, .null])), (q_1, .inl (k_2, 36, .inr (.inl (fun _ => 0)))), (q_3, .inl (k_4, 6, .inl (fun _ => 0))), (q_5, .inl (k_6, 6, .inl (fun _ => 0))), (q_7, .inl (k_8, 11, .inr (.inl (fun _ => 0))))] H := hP
  have hD : va_D A [(h0, .inr (5, [.int 0, .int 0, .ref q_1, .ref q_3, .ref q_5, .int 0, .ref q_7, .null])), (q_1, .inl (k_2, 36, .inr (.inl (fun _ => 0)))), (q_3, .inl (k_4, 6, .inl (fun _ => 0))), (q_5, .inl (k_6, 6, .inl (fun _ => 0))), (q_7, .inl (k_8, 11, .inr (.inl (fun _ => 0))))] := hD
  refine lv_aload_n hx hb dX5_init_36 rfl (lv_at hl 0 rfl) ?_
  refine lv_bipush (v := 25) hx hb dX5_init_37 (by decide) ?_
  refine va_newa (D := (dC, dI)) (a0 := (25, .inl (fun _ => 0))) (N' := 25) (ty := .int) (atype := .int) hx hb (hts _ tw_154) rfl hK hP hD hS hA (fun _ => rfl) (by decide) (by decide) (Nat.le_of_ble_eq_true rfl) (Nat.le_of_ble_eq_true rfl) (Nat.le_of_ble_eq_true rfl) dX5_init_39 (fun q_9 k_10 H hK hP hD hS => ?_)
  have hK : va_K (dC, dI) vwCl [(k_2, .long), (k_4, .int), (k_6, .int), (k_8, .long), (k_10, .int)] s := hK
  have hP : va_P (dC, dI) vwCl [(h0, .inr (5, [.int 0, .int 0, .ref q_1, .ref q_3, .ref q_5, .int 0, .ref q_7, .null])), (q_1, .inl (k_2, 36, .inr (.inl (fun _ => 0)))), (q_3, .inl (k_4, 6, .inl (fun _ => 0))), (q_5, .inl (k_6, 6, .inl (fun _ => 0))), (q_7, .inl (k_8, 11, .inr (.inl (fun _ => 0)))), (q_9, .inl (k_10, 25, .inl (fun _ => 0)))] H := hP
  have hD : va_D A [(h0, .inr (5, [.int 0, .int 0, .ref q_1, .ref q_3, .ref q_5, .int 0, .ref q_7, .null])), (q_1, .inl (k_2, 36, .inr (.inl (fun _ => 0)))), (q_3, .inl (k_4, 6, .inl (fun _ => 0))), (q_5, .inl (k_6, 6, .inl (fun _ => 0))), (q_7, .inl (k_8, 11, .inr (.inl (fun _ => 0)))), (q_9, .inl (k_10, 25, .inl (fun _ => 0)))] := hD
  refine va_putF (D := (dC, dI)) (ci := 5) (v := .ref q_9) (C := RX5) (T := TX5) (N := 8) hx hb hts iX5 tyX5 tyX5_ok nmX5 hown hK hP hD hS 0 rfl rfl 7 (by decide) (hts _ tw_355) (fun _ h9 => h9) rfl hin rfl (tyX5_ok 7 (by decide)) rfl rfl (Nat.le_of_ble_eq_true rfl) dX5_init_41 (fun H locs hP hD hS => ?_)
  have hP : va_P (dC, dI) vwCl [(h0, .inr (5, [.int 0, .int 0, .ref q_1, .ref q_3, .ref q_5, .int 0, .ref q_7, .ref q_9])), (q_1, .inl (k_2, 36, .inr (.inl (fun _ => 0)))), (q_3, .inl (k_4, 6, .inl (fun _ => 0))), (q_5, .inl (k_6, 6, .inl (fun _ => 0))), (q_7, .inl (k_8, 11, .inr (.inl (fun _ => 0)))), (q_9, .inl (k_10, 25, .inl (fun _ => 0)))] H := hP
  have hD : va_D A [(h0, .inr (5, [.int 0, .int 0, .ref q_1, .ref q_3, .ref q_5, .int 0, .ref q_7, .ref q_9])), (q_1, .inl (k_2, 36, .inr (.inl (fun _ => 0)))), (q_3, .inl (k_4, 6, .inl (fun _ => 0))), (q_5, .inl (k_6, 6, .inl (fun _ => 0))), (q_7, .inl (k_8, 11, .inr (.inl (fun _ => 0)))), (q_9, .inl (k_10, 25, .inl (fun _ => 0)))] := hD
  have hP9 := hP.sub (ws' := []) [] rfl
  have hD9 := hD.sub (ws' := []) [] (by decide) rfl
  have hK9 := hK.sub (tys' := []) [] rfl
  refine W.widen (k := 5) (n := 84) (Nat.le_of_ble_eq_true rfl) (Nat.le_of_ble_eq_true rfl) ?_
  exact W.vret hx hb hr (fun t ht hW => ⟨⟨(), rfl, trivial, ⟨by rw [ht]; exact hP9, va_K.moved hW.alike hK9, hD9⟩⟩, hS.F ht⟩) hS.2.2 dX5_init_44
set_option maxHeartbeats 4000000 in
set_option maxRecDepth 100000 in
/-- Days(poll) -/
theorem c_Days_init (l : Launch) (dC : Nat → ClassId) (dI : Nat → Nat → Nat) (h0 : Nat) (po : Nat) (sz : Nat) : Met l yX3_init (ws_u yX3_init cX3_init 2 none) ({ frames := 1, cells := 0, slots := 0, locals := 28 }) (va_Pc [.ref h0, .ref po] (cPre (dC, dI) [] [(h0, .inr (3, [.null, .long 0, .int 0, .int 0]))] sz)) (va_Qv (fun _ : Unit => True) (fun _ t => cPost (dC, dI) [] [] (va_A [(h0, .inr (3, [.null, .long 0, .int 0, .int 0]))] sz) t) (va_A [(h0, .inr (3, [.null, .long 0, .int 0, .int 0]))] sz)) 0 0 (va_A [(h0, .inr (3, [.null, .long 0, .int 0, .int 0]))] sz) := by
  refine Met.ofW (cc := cX3_init) (maxL := 2) (ret := none) (by decide) rfl ?_
  intro p e s m args below meth c s₁ B hml hv
  obtain ⟨rfl, hsz, hP, hK, hD0, hE⟩ := hv
  have hx := B.exec
  have hb := B.bytes
  have hr := B.returns
  have hts0 := atoms_spec (ws := ws_u yX3_init cX3_init 2 none) B.pre
  have hts : ∀ w ∈ gT, w.before _ s = true := fun w h => hts0 w (List.mem_cons_of_mem _ h)
  have hown : s.vm.findClass RX3 = some m.cls := findClass_of_methodNamed B.named
  have hlocks := B.notSynchronized
  have hin : meth.name = "<init>" := (name_of_methodNamed B.named B.method).1
  subst hsz
  have hD := hD0.self (sz := s.heap.size)
  generalize hAe : va_A [(h0, .inr (3, [.null, .long 0, .int 0, .int 0]))] s.heap.size = A at hD ⊢
  have hA : ∀ q : Nat, s.heap.size ≤ q → A q := fun q h => by rw [← hAe]; exact Or.inr h
  have hS : va_S A s.heap s.heap [] := va_S.rf
  have hl := lv_entry ([.ref h0, .ref po]) (n := 2) (Nat.le_of_ble_eq_true rfl)
  rw [lg_entry_eq]
  generalize (lg_sl ([.ref h0, .ref po]) ++ List.replicate (2 - (lg_sl ([.ref h0, .ref po])).length) Slot.unset).toArray = ls at hl ⊢
  have hl : lv_has ls 2 [(0, .ref h0), (1, .ref po)] := hl
  have hP : va_P (dC, dI) vwCl [(h0, .inr (3, [.null, .long 0, .int 0, .int 0]))] s.heap := hP
  try clear hAe
  refine lv_aload_n hx hb dX3_init_0 rfl (lv_at hl 0 rfl) ?_
  refine W.objInit hx hb hown (hts _ tw_378) (hts _ tw_28) (hts _ tw_29) rfl (by rw [hml]; exact hl.1) rfl dX3_init_1 (Nat.le_of_ble_eq_true rfl) (Nat.le_of_ble_eq_true rfl) ?_
  refine W.eq (g2 := F0 m 4 ls []) rfl ?_
  refine lv_aload_n hx hb dX3_init_4 rfl (lv_at hl 0 rfl) ?_
  refine lv_aload_n hx hb dX3_init_5 rfl (lv_at hl 1 rfl) ?_
  refine va_putF (D := (dC, dI)) (ci := 3) (v := .ref po) (C := RX3) (T := TX3) (N := 4) hx hb hts iX3 tyX3 tyX3_ok nmX3 hown hK hP hD hS 0 rfl rfl 0 (by decide) (hts _ tw_379) (fun _ h9 => h9) rfl hin rfl (tyX3_ok 0 (by decide)) rfl rfl (Nat.le_of_ble_eq_true rfl) dX3_init_6 (fun H locs hP hD hS => ?_)
  have hP : va_P (dC, dI) vwCl [(h0, .inr (3, [.ref po, .long 0, .int 0, .int 0]))] H := hP
  have hD : va_D A [(h0, .inr (3, [.ref po, .long 0, .int 0, .int 0]))] := hD
  have hP9 := hP.sub (ws' := []) [] rfl
  have hD9 := hD.sub (ws' := []) [] (by decide) rfl
  have hK9 := hK.sub (tys' := []) [] rfl
  refine W.widen (k := 0) (n := 0) (Nat.le_of_ble_eq_true rfl) (Nat.le_of_ble_eq_true rfl) ?_
  exact W.vret hx hb hr (fun t ht hW => ⟨⟨(), rfl, trivial, ⟨by rw [ht]; exact hP9, va_K.moved hW.alike hK9, hD9⟩⟩, hS.F ht⟩) hS.2.2 dX3_init_9
set_option maxHeartbeats 4000000 in
set_option maxRecDepth 100000 in
/-- Chronicle(days) -/
theorem c_Chronicle_init (l : Launch) (dC : Nat → ClassId) (dI : Nat → Nat → Nat) (h0 : Nat) (dy : Nat) (sz : Nat) : Met l yX2_init (ws_u yX2_init cX2_init 2 none) ({ frames := 2, cells := 9, slots := 479, locals := 48 }) (va_Pc [.ref h0, .ref dy] (cPre (dC, dI) [] [(h0, .inr (2, [.null, .null, .null, .null, .int 0]))] sz)) (va_Qv (fun _ : Unit => True) (fun _ t => cPost (dC, dI) [] [] (va_A [(h0, .inr (2, [.null, .null, .null, .null, .int 0]))] sz) t) (va_A [(h0, .inr (2, [.null, .null, .null, .null, .int 0]))] sz)) 9 479 (va_A [(h0, .inr (2, [.null, .null, .null, .null, .int 0]))] sz) := by
  refine Met.ofW (cc := cX2_init) (maxL := 2) (ret := none) (by decide) rfl ?_
  intro p e s m args below meth c s₁ B hml hv
  obtain ⟨rfl, hsz, hP, hK, hD0, hE⟩ := hv
  have hx := B.exec
  have hb := B.bytes
  have hr := B.returns
  have hts0 := atoms_spec (ws := ws_u yX2_init cX2_init 2 none) B.pre
  have hts : ∀ w ∈ gT, w.before _ s = true := fun w h => hts0 w (List.mem_cons_of_mem _ h)
  have hown : s.vm.findClass RX2 = some m.cls := findClass_of_methodNamed B.named
  have hlocks := B.notSynchronized
  have hin : meth.name = "<init>" := (name_of_methodNamed B.named B.method).1
  subst hsz
  have hD := hD0.self (sz := s.heap.size)
  generalize hAe : va_A [(h0, .inr (2, [.null, .null, .null, .null, .int 0]))] s.heap.size = A at hD ⊢
  have hA : ∀ q : Nat, s.heap.size ≤ q → A q := fun q h => by rw [← hAe]; exact Or.inr h
  have hS : va_S A s.heap s.heap [] := va_S.rf
  have hl := lv_entry ([.ref h0, .ref dy]) (n := 2) (Nat.le_of_ble_eq_true rfl)
  rw [lg_entry_eq]
  generalize (lg_sl ([.ref h0, .ref dy]) ++ List.replicate (2 - (lg_sl ([.ref h0, .ref dy])).length) Slot.unset).toArray = ls at hl ⊢
  have hl : lv_has ls 2 [(0, .ref h0), (1, .ref dy)] := hl
  have hP : va_P (dC, dI) vwCl [(h0, .inr (2, [.null, .null, .null, .null, .int 0]))] s.heap := hP
  try clear hAe
  refine lv_aload_n hx hb dX2_init_0 rfl (lv_at hl 0 rfl) ?_
  refine W.objInit hx hb hown (hts _ tw_399) (hts _ tw_28) (hts _ tw_29) rfl (by rw [hml]; exact hl.1) rfl dX2_init_1 (Nat.le_of_ble_eq_true rfl) (Nat.le_of_ble_eq_true rfl) ?_
  refine W.eq (g2 := F0 m 4 ls []) rfl ?_
  refine lv_aload_n hx hb dX2_init_4 rfl (lv_at hl 0 rfl) ?_
  refine lv_aload_n hx hb dX2_init_5 rfl (lv_at hl 1 rfl) ?_
  refine va_putF (D := (dC, dI)) (ci := 2) (v := .ref dy) (C := RX2) (T := TX2) (N := 5) hx hb hts iX2 tyX2 tyX2_ok nmX2 hown hK hP hD hS 0 rfl rfl 0 (by decide) (hts _ tw_404) (fun _ h9 => h9) rfl hin rfl (tyX2_ok 0 (by decide)) rfl rfl (Nat.le_of_ble_eq_true rfl) dX2_init_6 (fun H locs hP hD hS => ?_)
  have hP : va_P (dC, dI) vwCl [(h0, .inr (2, [.ref dy, .null, .null, .null, .int 0]))] H := hP
  have hD : va_D A [(h0, .inr (2, [.ref dy, .null, .null, .null, .int 0]))] := hD
  refine lv_aload_n hx hb dX2_init_9 rfl (lv_at hl 0 rfl) ?_
  refine va_new (ci := 8) (fs := [.int 0, .int 0, .int 0, .int 0, .int 0, .int 0, .int 0, .null, .null, .null, .null, .null, .null]) (C := RX8) (T := TX8) (N := 13) hx hb hts iX8 tyX8 tyX8_ok hown (hts _ tw_400) (hts _ tw_215) (hts _ tw_8) hK hP hD hS hA rfl (dfX8) (Nat.le_of_ble_eq_true rfl) (Nat.le_of_ble_eq_true rfl) dX2_init_10 (fun q_1 H hP hD hS => ?_)
  have hP : va_P (dC, dI) vwCl [(h0, .inr (2, [.ref dy, .null, .null, .null, .int 0])), (q_1, .inr (8, [.int 0, .int 0, .int 0, .int 0, .int 0, .int 0, .int 0, .null, .null, .null, .null, .null, .null]))] H := hP
  have hD : va_D A [(h0, .inr (2, [.ref dy, .null, .null, .null, .int 0])), (q_1, .inr (8, [.int 0, .int 0, .int 0, .int 0, .int 0, .int 0, .int 0, .null, .null, .null, .null, .null, .null]))] := hD
  refine lv_dup hx hb dX2_init_13 rfl ?_
  have hPc := hP.sub (ws' := [(q_1, .inr (8, [.int 0, .int 0, .int 0, .int 0, .int 0, .int 0, .int 0, .null, .null, .null, .null, .null, .null]))]) [1] rfl
  have hDc := hD.sub (ws' := [(q_1, .inr (8, [.int 0, .int 0, .int 0, .int 0, .int 0, .int 0, .int 0, .null, .null, .null, .null, .null, .null]))]) [1] (by decide) rfl
  have hKc := hK.sub (tys' := []) [] rfl
  have hFc := va_free (wc := [(q_1, .inr (8, [.int 0, .int 0, .int 0, .int 0, .int 0, .int 0, .int 0, .null, .null, .null, .null, .null, .null]))]) hD hS hA [1] rfl
  refine va_callv (va_runI (As := []) (rest := [.ref q_1, .ref h0]) ⟨hx, hb, hml, hown, hts⟩ (c_Standing_init l dC dI q_1  H.size) (cwI 0 hts (gU tw_218) rfl rfl rfl (hts _ tw_8) (hts _ tw_401) (hts _ tw_217) rfl (by decide +kernel) ⟨(Nat.le_of_ble_eq_true rfl), (Nat.le_of_ble_eq_true rfl)⟩) ⟨cPre.blind, cPre.use hPc hKc hDc hE⟩ rfl rfl hl.1 rfl (lv_room (Nat.le_of_ble_eq_true rfl)) dX2_init_14 ⟨(Nat.le_of_ble_eq_true rfl), (Nat.le_of_ble_eq_true rfl)⟩) hS (fun q _ h => hFc q h) hFc (fun u t H1 locs ht hvm hw hB hz1 hk1 hS => ?_)
  obtain ⟨q0_3, k0_4, q1_5, k1_6, q2_7, k2_8, q3_9, k3_10, q4_11, k4_12, q5_13, k5_14, hP1, hK1, hD1⟩ := hB
  rw [ht] at hP1
  obtain ⟨hP, hD⟩ := va_join (wr := [(h0, .inr (2, [.ref dy, .null, .null, .null, .int 0]))]) (w1 := [(q_1, .inr (8, [.int 0, .int (-1), .int (-1), .int 0, .int 0, .int 0, .int 0, .ref q0_3, .ref q1_5, .ref q2_7, .ref q3_9, .ref q4_11, .ref q5_13])), (q0_3, .inl (k0_4, 6, .inl (fun _ => 0))), (q1_5, .inl (k1_6, 6, .inl (fun _ => 0))), (q2_7, .inl (k2_8, 6, .inl (fun _ => 0))), (q3_9, .inl (k3_10, 4, .inl (fun _ => 0))), (q4_11, .inl (k4_12, 4, .inl (fun _ => 0))), (q5_13, .inl (k5_14, 6, .inl (fun _ => 0)))]) hP hD [1] [0] rfl rfl (by decide) (by decide) hk1 hFc hP1 hD1
  have hK1 := va_K.moved hvm.symm hK1
  have hK := hK.app (hK1.sub (tys' := [(k0_4, .int), (k1_6, .int), (k2_8, .int), (k3_10, .int), (k4_12, .int), (k5_14, .int)]) [0, 1, 2, 3, 4, 5] rfl)
  have hK : va_K (dC, dI) vwCl [(k0_4, .int), (k1_6, .int), (k2_8, .int), (k3_10, .int), (k4_12, .int), (k5_14, .int)] s := hK
  generalize H1 = H at hP hS ⊢
  have hP : va_P (dC, dI) vwCl [(h0, .inr (2, [.ref dy, .null, .null, .null, .int 0])), (q_1, .inr (8, [.int 0, .int (-1), .int (-1), .int 0, .int 0, .int 0, .int 0, .ref q0_3, .ref q1_5, .ref q2_7, .ref q3_9, .ref q4_11, .ref q5_13])), (q0_3, .inl (k0_4, 6, .inl (fun _ => 0))), (q1_5, .inl (k1_6, 6, .inl (fun _ => 0))), (q2_7, .inl (k2_8, 6, .inl (fun _ => 0))), (q3_9, .inl (k3_10, 4, .inl (fun _ => 0))), (q4_11, .inl (k4_12, 4, .inl (fun _ => 0))), (q5_13, .inl (k5_14, 6, .inl (fun _ => 0)))] H := hP
  have hD : va_D A [(h0, .inr (2, [.ref dy, .null, .null, .null, .int 0])), (q_1, .inr (8, [.int 0, .int (-1), .int (-1), .int 0, .int 0, .int 0, .int 0, .ref q0_3, .ref q1_5, .ref q2_7, .ref q3_9, .ref q4_11, .ref q5_13])), (q0_3, .inl (k0_4, 6, .inl (fun _ => 0))), (q1_5, .inl (k1_6, 6, .inl (fun _ => 0))), (q2_7, .inl (k2_8, 6, .inl (fun _ => 0))), (q3_9, .inl (k3_10, 4, .inl (fun _ => 0))), (q4_11, .inl (k4_12, 4, .inl (fun _ => 0))), (q5_13, .inl (k5_14, 6, .inl (fun _ => 0)))] := hD
  refine va_putF (D := (dC, dI)) (ci := 2) (v := .ref q_1) (C := RX2) (T := TX2) (N := 5) hx hb hts iX2 tyX2 tyX2_ok nmX2 hown hK hP hD hS 0 rfl rfl 1 (by decide) (hts _ tw_405) (fun _ h9 => h9) rfl hin rfl (tyX2_ok 1 (by decide)) rfl rfl (Nat.le_of_ble_eq_true rfl) dX2_init_17 (fun H locs hP hD hS => ?_)
  have hP : va_P (dC, dI) vwCl [(h0, .inr (2, [.ref dy, .ref q_1, .null, .null, .int 0])), (q_1, .inr (8, [.int 0, .int (-1), .int (-1), .int 0, .int 0, .int 0, .int 0, .ref q0_3, .ref q1_5, .ref q2_7, .ref q3_9, .ref q4_11, .ref q5_13])), (q0_3, .inl (k0_4, 6, .inl (fun _ => 0))), (q1_5, .inl (k1_6, 6, .inl (fun _ => 0))), (q2_7, .inl (k2_8, 6, .inl (fun _ => 0))), (q3_9, .inl (k3_10, 4, .inl (fun _ => 0))), (q4_11, .inl (k4_12, 4, .inl (fun _ => 0))), (q5_13, .inl (k5_14, 6, .inl (fun _ => 0)))] H := hP
  have hD : va_D A [(h0, .inr (2, [.ref dy, .ref q_1, .null, .null, .int 0])), (q_1, .inr (8, [.int 0, .int (-1), .int (-1), .int 0, .int 0, .int 0, .int 0, .ref q0_3, .ref q1_5, .ref q2_7, .ref q3_9, .ref q4_11, .ref q5_13])), (q0_3, .inl (k0_4, 6, .inl (fun _ => 0))), (q1_5, .inl (k1_6, 6, .inl (fun _ => 0))), (q2_7, .inl (k2_8, 6, .inl (fun _ => 0))), (q3_9, .inl (k3_10, 4, .inl (fun _ => 0))), (q4_11, .inl (k4_12, 4, .inl (fun _ => 0))), (q5_13, .inl (k5_14, 6, .inl (fun _ => 0)))] := hD
  refine lv_aload_n hx hb dX2_init_20 rfl (lv_at hl 0 rfl) ?_
  refine lv_sipush (v := 427) hx hb dX2_init_21 (by decide) ?_
  refine va_newa (D := (dC, dI)) (a0 := (427, .inl (fun _ => 0))) (N' := 427) (ty := .int) (atype := .int) hx hb (hts _ tw_154) rfl hK hP hD hS hA (fun _ => rfl) (by decide) (by decide) (Nat.le_of_ble_eq_true rfl) (Nat.le_of_ble_eq_true rfl) (Nat.le_of_ble_eq_true rfl) dX2_init_24 (fun q_15 k_16 H hK hP hD hS => ?_)
  have hK : va_K (dC, dI) vwCl [(k0_4, .int), (k1_6, .int), (k2_8, .int), (k3_10, .int), (k4_12, .int), (k5_14, .int), (k_16, .int)] s := hK
  have hP : va_P (dC, dI) vwCl [(h0, .inr (2, [.ref dy, .ref q_1, .null, .null, .int 0])), (q_1, .inr (8, [.int 0, .int (-1), .int (-1), .int 0, .int 0, .int 0, .int 0, .ref q0_3, .ref q1_5, .ref q2_7, .ref q3_9, .ref q4_11, .ref q5_13])), (q0_3, .inl (k0_4, 6, .inl (fun _ => 0))), (q1_5, .inl (k1_6, 6, .inl (fun _ => 0))), (q2_7, .inl (k2_8, 6, .inl (fun _ => 0))), (q3_9, .inl (k3_10, 4, .inl (fun _ => 0))), (q4_11, .inl (k4_12, 4, .inl (fun _ => 0))), (q5_13, .inl (k5_14, 6, .inl (fun _ => 0))), (q_15, .inl (k_16, 427, .inl (fun _ => 0)))] H := hP
  have hD : va_D A [(h0, .inr (2, [.ref dy, .ref q_1, .null, .null, .int 0])), (q_1, .inr (8, [.int 0, .int (-1), .int (-1), .int 0, .int 0, .int 0, .int 0, .ref q0_3, .ref q1_5, .ref q2_7, .ref q3_9, .ref q4_11, .ref q5_13])), (q0_3, .inl (k0_4, 6, .inl (fun _ => 0))), (q1_5, .inl (k1_6, 6, .inl (fun _ => 0))), (q2_7, .inl (k2_8, 6, .inl (fun _ => 0))), (q3_9, .inl (k3_10, 4, .inl (fun _ => 0))), (q4_11, .inl (k4_12, 4, .inl (fun _ => 0))), (q5_13, .inl (k5_14, 6, .inl (fun _ => 0))), (q_15, .inl (k_16, 427, .inl (fun _ => 0)))] := hD
  refine va_putF (D := (dC, dI)) (ci := 2) (v := .ref q_15) (C := RX2) (T := TX2) (N := 5) hx hb hts iX2 tyX2 tyX2_ok nmX2 hown hK hP hD hS 0 rfl rfl 2 (by decide) (hts _ tw_406) (fun _ h9 => h9) rfl hin rfl (tyX2_ok 2 (by decide)) rfl rfl (Nat.le_of_ble_eq_true rfl) dX2_init_26 (fun H locs hP hD hS => ?_)
  have hP : va_P (dC, dI) vwCl [(h0, .inr (2, [.ref dy, .ref q_1, .ref q_15, .null, .int 0])), (q_1, .inr (8, [.int 0, .int (-1), .int (-1), .int 0, .int 0, .int 0, .int 0, .ref q0_3, .ref q1_5, .ref q2_7, .ref q3_9, .ref q4_11, .ref q5_13])), (q0_3, .inl (k0_4, 6, .inl (fun _ => 0))), (q1_5, .inl (k1_6, 6, .inl (fun _ => 0))), (q2_7, .inl (k2_8, 6, .inl (fun _ => 0))), (q3_9, .inl (k3_10, 4, .inl (fun _ => 0))), (q4_11, .inl (k4_12, 4, .inl (fun _ => 0))), (q5_13, .inl (k5_14, 6, .inl (fun _ => 0))), (q_15, .inl (k_16, 427, .inl (fun _ => 0)))] H := hP
  have hD : va_D A [(h0, .inr (2, [.ref dy, .ref q_1, .ref q_15, .null, .int 0])), (q_1, .inr (8, [.int 0, .int (-1), .int (-1), .int 0, .int 0, .int 0, .int 0, .ref q0_3, .ref q1_5, .ref q2_7, .ref q3_9, .ref q4_11, .ref q5_13])), (q0_3, .inl (k0_4, 6, .inl (fun _ => 0))), (q1_5, .inl (k1_6, 6, .inl (fun _ => 0))), (q2_7, .inl (k2_8, 6, .inl (fun _ => 0))), (q3_9, .inl (k3_10, 4, .inl (fun _ => 0))), (q4_11, .inl (k4_12, 4, .inl (fun _ => 0))), (q5_13, .inl (k5_14, 6, .inl (fun _ => 0))), (q_15, .inl (k_16, 427, .inl (fun _ => 0)))] := hD
  refine lv_aload_n hx hb dX2_init_29 rfl (lv_at hl 0 rfl) ?_
  refine lv_bipush (v := 7) hx hb dX2_init_30 (by decide) ?_
  refine va_newq (D := (dC, dI)) (C := RX0) (N' := 7) hx hb hown (hts _ tw_402) hE.aoX0 hK hP hD hS hA (by decide) (by decide) (Nat.le_of_ble_eq_true rfl) (Nat.le_of_ble_eq_true rfl) (Nat.le_of_ble_eq_true rfl) dX2_init_32 (fun q_17 k_18 H hK hP hD hS => ?_)
  have hK : va_K (dC, dI) vwCl [(k0_4, .int), (k1_6, .int), (k2_8, .int), (k3_10, .int), (k4_12, .int), (k5_14, .int), (k_16, .int), (k_18, .object RX0)] s := hK
  have hP : va_P (dC, dI) vwCl [(h0, .inr (2, [.ref dy, .ref q_1, .ref q_15, .null, .int 0])), (q_1, .inr (8, [.int 0, .int (-1), .int (-1), .int 0, .int 0, .int 0, .int 0, .ref q0_3, .ref q1_5, .ref q2_7, .ref q3_9, .ref q4_11, .ref q5_13])), (q0_3, .inl (k0_4, 6, .inl (fun _ => 0))), (q1_5, .inl (k1_6, 6, .inl (fun _ => 0))), (q2_7, .inl (k2_8, 6, .inl (fun _ => 0))), (q3_9, .inl (k3_10, 4, .inl (fun _ => 0))), (q4_11, .inl (k4_12, 4, .inl (fun _ => 0))), (q5_13, .inl (k5_14, 6, .inl (fun _ => 0))), (q_15, .inl (k_16, 427, .inl (fun _ => 0))), (q_17, .inl (k_18, 7, .inr (.inr (.inr (.inr (fun _ => none))))))] H := hP
  have hD : va_D A [(h0, .inr (2, [.ref dy, .ref q_1, .ref q_15, .null, .int 0])), (q_1, .inr (8, [.int 0, .int (-1), .int (-1), .int 0, .int 0, .int 0, .int 0, .ref q0_3, .ref q1_5, .ref q2_7, .ref q3_9, .ref q4_11, .ref q5_13])), (q0_3, .inl (k0_4, 6, .inl (fun _ => 0))), (q1_5, .inl (k1_6, 6, .inl (fun _ => 0))), (q2_7, .inl (k2_8, 6, .inl (fun _ => 0))), (q3_9, .inl (k3_10, 4, .inl (fun _ => 0))), (q4_11, .inl (k4_12, 4, .inl (fun _ => 0))), (q5_13, .inl (k5_14, 6, .inl (fun _ => 0))), (q_15, .inl (k_16, 427, .inl (fun _ => 0))), (q_17, .inl (k_18, 7, .inr (.inr (.inr (.inr (fun _ => none))))))] := hD
  refine va_putF (D := (dC, dI)) (ci := 2) (v := .ref q_17) (C := RX2) (T := TX2) (N := 5) hx hb hts iX2 tyX2 tyX2_ok nmX2 hown hK hP hD hS 0 rfl rfl 3 (by decide) (hts _ tw_407) (fun _ h9 => h9) rfl hin rfl (tyX2_ok 3 (by decide)) rfl rfl (Nat.le_of_ble_eq_true rfl) dX2_init_35 (fun H locs hP hD hS => ?_)
  have hP : va_P (dC, dI) vwCl [(h0, .inr (2, [.ref dy, .ref q_1, .ref q_15, .ref q_17, .int 0])), (q_1, .inr (8, [.int 0, .int (-1), .int (-1), .int 0, .int 0, .int 0, .int 0, .ref q0_3, .ref q1_5, .ref q2_7, .ref q3_9, .ref q4_11, .ref q5_13])), (q0_3, .inl (k0_4, 6, .inl (fun _ => 0))), (q1_5, .inl (k1_6, 6, .inl (fun _ => 0))), (q2_7, .inl (k2_8, 6, .inl (fun _ => 0))), (q3_9, .inl (k3_10, 4, .inl (fun _ => 0))), (q4_11, .inl (k4_12, 4, .inl (fun _ => 0))), (q5_13, .inl (k5_14, 6, .inl (fun _ => 0))), (q_15, .inl (k_16, 427, .inl (fun _ => 0))), (q_17, .inl (k_18, 7, .inr (.inr (.inr (.inr (fun _ => none))))))] H := hP
  have hD : va_D A [(h0, .inr (2, [.ref dy, .ref q_1, .ref q_15, .ref q_17, .int 0])), (q_1, .inr (8, [.int 0, .int (-1), .int (-1), .int 0, .int 0, .int 0, .int 0, .ref q0_3, .ref q1_5, .ref q2_7, .ref q3_9, .ref q4_11, .ref q5_13])), (q0_3, .inl (k0_4, 6, .inl (fun _ => 0))), (q1_5, .inl (k1_6, 6, .inl (fun _ => 0))), (q2_7, .inl (k2_8, 6, .inl (fun _ => 0))), (q3_9, .inl (k3_10, 4, .inl (fun _ => 0))), (q4_11, .inl (k4_12, 4, .inl (fun _ => 0))), (q5_13, .inl (k5_14, 6, .inl (fun _ => 0))), (q_15, .inl (k_16, 427, .inl (fun _ => 0))), (q_17, .inl (k_18, 7, .inr (.inr (.inr (.inr (fun _ => none))))))] := hD
  have hP9 := hP.sub (ws' := []) [] rfl
  have hD9 := hD.sub (ws' := []) [] (by decide) rfl
  have hK9 := hK.sub (tys' := []) [] rfl
  refine W.widen (k := 9) (n := 479) (Nat.le_of_ble_eq_true rfl) (Nat.le_of_ble_eq_true rfl) ?_
  exact W.vret hx hb hr (fun t ht hW => ⟨⟨(), rfl, trivial, ⟨by rw [ht]; exact hP9, va_K.moved hW.alike hK9, hD9⟩⟩, hS.F ht⟩) hS.2.2 dX2_init_38
