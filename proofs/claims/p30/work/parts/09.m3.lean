theorem ts_0_15 : Cond.selects "BoyBishop" ⟨"BoyBishop", "isBoy", "(I)Z"⟩ ⟨"BoyBishop", "isBoy", "(I)Z"⟩ ∈ gT := gT_in (List.mem_append_left _ (List.mem_map.mpr ⟨(⟨"BoyBishop", "isBoy", "(I)Z"⟩, 12), (List.mem_append_left _ (List.mem_of_getElem? (i := 15) rfl)), rfl⟩)) rfl
theorem ts_1_1 : Cond.selects "BoyBishop" ⟨"BoyBishop", "isFarm", "(I)Z"⟩ ⟨"BoyBishop", "isFarm", "(I)Z"⟩ ∈ gT := gT_in (List.mem_append_left _ (List.mem_map.mpr ⟨(⟨"BoyBishop", "isFarm", "(I)Z"⟩, 12), (List.mem_append_right _ (List.mem_append_left _ (List.mem_of_getElem? (i := 1) rfl))), rfl⟩)) rfl
theorem tw_1 : (Jvm.Cond.initialized "BoyBishop") ∈ gT := gT_in (List.mem_append_right _ (List.mem_append_left _ (List.mem_of_getElem? (i := 1) rfl))) rfl
theorem tw_10 : (Jvm.Cond.initialized "BoyBishop$Poll") ∈ gT := gT_in (List.mem_append_right _ (List.mem_append_left _ (List.mem_of_getElem? (i := 10) rfl))) rfl
theorem tw_1113 : (Jvm.Cond.methodLink "BoyBishop$Whole" (33 : Nat) ({ cls := "BoyBishop$Standing", name := "copyFrom", desc := "(LBoyBishop$Standing;)V" } : Jvm.MethodName)) ∈ gT := gT_in (List.mem_append_right _ (List.mem_append_right _ (List.mem_append_right _ (List.mem_append_right _ (List.mem_append_right _ (List.mem_append_left _ (List.mem_of_getElem? (i := 153) rfl))))))) rfl
theorem tw_1114 : (Jvm.Cond.methodLink "BoyBishop$Whole" (43 : Nat) ({ cls := "java/lang/System", name := "arraycopy", desc := "(Ljava/lang/Object;ILjava/lang/Object;II)V" } : Jvm.MethodName)) ∈ gT := gT_in (List.mem_append_right _ (List.mem_append_right _ (List.mem_append_right _ (List.mem_append_right _ (List.mem_append_right _ (List.mem_append_left _ (List.mem_of_getElem? (i := 154) rfl))))))) rfl
theorem tw_20 : (Jvm.Cond.initialized "java/lang/System") ∈ gT := gT_in (List.mem_append_right _ (List.mem_append_left _ (List.mem_of_getElem? (i := 20) rfl))) rfl
theorem tw_220 : (Jvm.Cond.fieldLink "BoyBishop$Standing" (37 : Nat) "BoyBishop$Standing" "day" "I") ∈ gT := gT_in (List.mem_append_right _ (List.mem_append_left _ (List.mem_of_getElem? (i := 220) rfl))) rfl
theorem tw_223 : (Jvm.Cond.fieldLink "BoyBishop$Standing" (9 : Nat) "BoyBishop$Standing" "bishop" "I") ∈ gT := gT_in (List.mem_append_right _ (List.mem_append_left _ (List.mem_of_getElem? (i := 223) rfl))) rfl
theorem tw_227 : (Jvm.Cond.fieldLink "BoyBishop$Standing" (15 : Nat) "BoyBishop$Standing" "firstDay" "I") ∈ gT := gT_in (List.mem_append_right _ (List.mem_append_left _ (List.mem_of_getElem? (i := 227) rfl))) rfl
theorem tw_229 : (Jvm.Cond.fieldLink "BoyBishop$Standing" (40 : Nat) "BoyBishop$Standing" "out" "Z") ∈ gT := gT_in (List.mem_append_right _ (List.mem_append_left _ (List.mem_of_getElem? (i := 229) rfl))) rfl
theorem tw_231 : (Jvm.Cond.fieldLink "BoyBishop$Standing" (44 : Nat) "BoyBishop$Standing" "chest" "I") ∈ gT := gT_in (List.mem_append_right _ (List.mem_append_left _ (List.mem_of_getElem? (i := 231) rfl))) rfl
theorem tw_234 : (Jvm.Cond.fieldLink "BoyBishop$Standing" (47 : Nat) "BoyBishop$Standing" "wentToBoys" "I") ∈ gT := gT_in (List.mem_append_right _ (List.mem_append_left _ (List.mem_of_getElem? (i := 234) rfl))) rfl
theorem tw_236 : (Jvm.Cond.fieldLink "BoyBishop$Standing" (50 : Nat) "BoyBishop$Standing" "free" "I") ∈ gT := gT_in (List.mem_append_right _ (List.mem_append_left _ (List.mem_of_getElem? (i := 236) rfl))) rfl
theorem tw_238 : (Jvm.Cond.fieldLink "BoyBishop$Standing" (18 : Nat) "BoyBishop$Standing" "voice" "[I") ∈ gT := gT_in (List.mem_append_right _ (List.mem_append_left _ (List.mem_of_getElem? (i := 238) rfl))) rfl
theorem tw_242 : (Jvm.Cond.fieldLink "BoyBishop$Standing" (22 : Nat) "BoyBishop$Standing" "share" "[I") ∈ gT := gT_in (List.mem_append_right _ (List.mem_append_right _ (List.mem_append_left _ (List.mem_of_getElem? (i := 2) rfl)))) rfl
theorem tw_245 : (Jvm.Cond.fieldLink "BoyBishop$Standing" (25 : Nat) "BoyBishop$Standing" "was" "[I") ∈ gT := gT_in (List.mem_append_right _ (List.mem_append_right _ (List.mem_append_left _ (List.mem_of_getElem? (i := 5) rfl)))) rfl
theorem tw_248 : (Jvm.Cond.fieldLink "BoyBishop$Standing" (28 : Nat) "BoyBishop$Standing" "age" "[I") ∈ gT := gT_in (List.mem_append_right _ (List.mem_append_right _ (List.mem_append_left _ (List.mem_of_getElem? (i := 8) rfl)))) rfl
theorem tw_250 : (Jvm.Cond.fieldLink "BoyBishop$Standing" (31 : Nat) "BoyBishop$Standing" "given" "[I") ∈ gT := gT_in (List.mem_append_right _ (List.mem_append_right _ (List.mem_append_left _ (List.mem_of_getElem? (i := 10) rfl)))) rfl
theorem tw_252 : (Jvm.Cond.fieldLink "BoyBishop$Standing" (34 : Nat) "BoyBishop$Standing" "laid" "[I") ∈ gT := gT_in (List.mem_append_right _ (List.mem_append_right _ (List.mem_append_left _ (List.mem_of_getElem? (i := 12) rfl)))) rfl
theorem tw_281 : (Jvm.Cond.fieldLink "BoyBishop$Whole" (9 : Nat) "BoyBishop$Whole" "choir" "LBoyBishop$Choir;") ∈ gT := gT_in (List.mem_append_right _ (List.mem_append_right _ (List.mem_append_left _ (List.mem_of_getElem? (i := 41) rfl)))) rfl
theorem tw_282 : (Jvm.Cond.fieldLink "BoyBishop" (53 : Nat) "BoyBishop$Whole" "choir" "LBoyBishop$Choir;") ∈ gT := gT_in (List.mem_append_right _ (List.mem_append_right _ (List.mem_append_left _ (List.mem_of_getElem? (i := 42) rfl)))) rfl
theorem tw_284 : (Jvm.Cond.fieldLink "BoyBishop$Whole" (18 : Nat) "BoyBishop$Whole" "standing" "LBoyBishop$Standing;") ∈ gT := gT_in (List.mem_append_right _ (List.mem_append_right _ (List.mem_append_left _ (List.mem_of_getElem? (i := 44) rfl)))) rfl
theorem tw_286 : (Jvm.Cond.fieldLink "BoyBishop$Whole" (22 : Nat) "BoyBishop$Whole" "force" "I") ∈ gT := gT_in (List.mem_append_right _ (List.mem_append_right _ (List.mem_append_left _ (List.mem_of_getElem? (i := 46) rfl)))) rfl
theorem tw_287 : (Jvm.Cond.fieldLink "BoyBishop" (136 : Nat) "BoyBishop$Whole" "force" "I") ∈ gT := gT_in (List.mem_append_right _ (List.mem_append_right _ (List.mem_append_left _ (List.mem_of_getElem? (i := 47) rfl)))) rfl
theorem tw_288 : (Jvm.Cond.fieldLink "BoyBishop$Whole" (37 : Nat) "BoyBishop$Whole" "x" "I") ∈ gT := gT_in (List.mem_append_right _ (List.mem_append_right _ (List.mem_append_left _ (List.mem_of_getElem? (i := 48) rfl)))) rfl
theorem tw_290 : (Jvm.Cond.fieldLink "BoyBishop$Whole" (40 : Nat) "BoyBishop$Whole" "notes" "I") ∈ gT := gT_in (List.mem_append_right _ (List.mem_append_right _ (List.mem_append_left _ (List.mem_of_getElem? (i := 50) rfl)))) rfl
theorem tw_293 : (Jvm.Cond.fieldLink "BoyBishop$Whole" (26 : Nat) "BoyBishop$Whole" "noteDay" "[I") ∈ gT := gT_in (List.mem_append_right _ (List.mem_append_right _ (List.mem_append_left _ (List.mem_of_getElem? (i := 53) rfl)))) rfl
theorem tw_296 : (Jvm.Cond.fieldLink "BoyBishop$Whole" (30 : Nat) "BoyBishop$Whole" "noteBishop" "[I") ∈ gT := gT_in (List.mem_append_right _ (List.mem_append_right _ (List.mem_append_left _ (List.mem_of_getElem? (i := 56) rfl)))) rfl
theorem tw_344 : (Jvm.Cond.fieldLink "BoyBishop$Poll" (36 : Nat) "BoyBishop$Poll" "boys" "I") ∈ gT := gT_in (List.mem_append_right _ (List.mem_append_right _ (List.mem_append_left _ (List.mem_of_getElem? (i := 104) rfl)))) rfl
theorem tw_347 : (Jvm.Cond.fieldLink "BoyBishop$Poll" (15 : Nat) "BoyBishop$Poll" "choice" "[I") ∈ gT := gT_in (List.mem_append_right _ (List.mem_append_right _ (List.mem_append_left _ (List.mem_of_getElem? (i := 107) rfl)))) rfl
theorem tw_349 : (Jvm.Cond.fieldLink "BoyBishop$Poll" (19 : Nat) "BoyBishop$Poll" "tally" "[I") ∈ gT := gT_in (List.mem_append_right _ (List.mem_append_right _ (List.mem_append_left _ (List.mem_of_getElem? (i := 109) rfl)))) rfl
theorem tw_426 : (Jvm.Cond.fieldLink "BoyBishop" (32 : Nat) "BoyBishop" "rules" "[LBoyBishop$Rule;") ∈ gT := gT_in (List.mem_append_right _ (List.mem_append_right _ (List.mem_append_left _ (List.mem_of_getElem? (i := 186) rfl)))) rfl
theorem tw_427 : (Jvm.Cond.fieldLink "BoyBishop" (130 : Nat) "BoyBishop" "ruleCount" "I") ∈ gT := gT_in (List.mem_append_right _ (List.mem_append_right _ (List.mem_append_left _ (List.mem_of_getElem? (i := 187) rfl)))) rfl
theorem tw_428 : (Jvm.Cond.fieldLink "BoyBishop" (45 : Nat) "BoyBishop" "now" "LBoyBishop$Whole;") ∈ gT := gT_in (List.mem_append_right _ (List.mem_append_right _ (List.mem_append_left _ (List.mem_of_getElem? (i := 188) rfl)))) rfl
theorem tw_621 : (Jvm.Cond.methodLink "BoyBishop$Standing" (56 : Nat) ({ cls := "java/lang/System", name := "arraycopy", desc := "(Ljava/lang/Object;ILjava/lang/Object;II)V" } : Jvm.MethodName)) ∈ gT := gT_in (List.mem_append_right _ (List.mem_append_right _ (List.mem_append_right _ (List.mem_append_left _ (List.mem_of_getElem? (i := 141) rfl))))) rfl
theorem tw_622 : (Jvm.Cond.static ({ cls := "java/lang/System", name := "arraycopy", desc := "(Ljava/lang/Object;ILjava/lang/Object;II)V" } : Jvm.MethodName)) ∈ gT := gT_in (List.mem_append_right _ (List.mem_append_right _ (List.mem_append_right _ (List.mem_append_left _ (List.mem_of_getElem? (i := 142) rfl))))) rfl
theorem tw_623 : (Jvm.Cond.native ({ cls := "java/lang/System", name := "arraycopy", desc := "(Ljava/lang/Object;ILjava/lang/Object;II)V" } : Jvm.MethodName)) ∈ gT := gT_in (List.mem_append_right _ (List.mem_append_right _ (List.mem_append_right _ (List.mem_append_left _ (List.mem_of_getElem? (i := 143) rfl))))) rfl
theorem tw_710 : (Jvm.Cond.methodLink "BoyBishop" (139 : Nat) ({ cls := "BoyBishop", name := "isBoy", desc := "(I)Z" } : Jvm.MethodName)) ∈ gT := gT_in (List.mem_append_right _ (List.mem_append_right _ (List.mem_append_right _ (List.mem_append_left _ (List.mem_of_getElem? (i := 230) rfl))))) rfl
theorem tw_712 : (Jvm.Cond.instanceMethod ({ cls := "BoyBishop", name := "isBoy", desc := "(I)Z" } : Jvm.MethodName)) ∈ gT := gT_in (List.mem_append_right _ (List.mem_append_right _ (List.mem_append_right _ (List.mem_append_left _ (List.mem_of_getElem? (i := 232) rfl))))) rfl
theorem tw_713 : (Jvm.Cond.code ({ cls := "BoyBishop", name := "isBoy", desc := "(I)Z" } : Jvm.MethodName) prog_1_method_41_code (2 : Nat) (Option.some Jvm.ClassFile.FieldType.boolean)) ∈ gT := gT_in (List.mem_append_right _ (List.mem_append_right _ (List.mem_append_right _ (List.mem_append_left _ (List.mem_of_getElem? (i := 233) rfl))))) rfl
theorem tw_730 : (Jvm.Cond.methodLink "BoyBishop" (173 : Nat) ({ cls := "BoyBishop", name := "isFarm", desc := "(I)Z" } : Jvm.MethodName)) ∈ gT := gT_in (List.mem_append_right _ (List.mem_append_right _ (List.mem_append_right _ (List.mem_append_right _ (List.mem_append_left _ (List.mem_of_getElem? (i := 10) rfl)))))) rfl
theorem tw_732 : (Jvm.Cond.instanceMethod ({ cls := "BoyBishop", name := "isFarm", desc := "(I)Z" } : Jvm.MethodName)) ∈ gT := gT_in (List.mem_append_right _ (List.mem_append_right _ (List.mem_append_right _ (List.mem_append_right _ (List.mem_append_left _ (List.mem_of_getElem? (i := 12) rfl)))))) rfl
theorem tw_733 : (Jvm.Cond.code ({ cls := "BoyBishop", name := "isFarm", desc := "(I)Z" } : Jvm.MethodName) prog_1_method_45_code (2 : Nat) (Option.some Jvm.ClassFile.FieldType.boolean)) ∈ gT := gT_in (List.mem_append_right _ (List.mem_append_right _ (List.mem_append_right _ (List.mem_append_right _ (List.mem_append_left _ (List.mem_of_getElem? (i := 13) rfl)))))) rfl
theorem tw_752 : (Jvm.Cond.instanceMethod ({ cls := "BoyBishop$Standing", name := "copyFrom", desc := "(LBoyBishop$Standing;)V" } : Jvm.MethodName)) ∈ gT := gT_in (List.mem_append_right _ (List.mem_append_right _ (List.mem_append_right _ (List.mem_append_right _ (List.mem_append_left _ (List.mem_of_getElem? (i := 32) rfl)))))) rfl
theorem tw_753 : (Jvm.Cond.selects "BoyBishop$Standing" ({ cls := "BoyBishop$Standing", name := "copyFrom", desc := "(LBoyBishop$Standing;)V" } : Jvm.MethodName) ({ cls := "BoyBishop$Standing", name := "copyFrom", desc := "(LBoyBishop$Standing;)V" } : Jvm.MethodName)) ∈ gT := gT_in (List.mem_append_right _ (List.mem_append_right _ (List.mem_append_right _ (List.mem_append_right _ (List.mem_append_left _ (List.mem_of_getElem? (i := 33) rfl)))))) rfl
theorem tw_754 : (Jvm.Cond.code ({ cls := "BoyBishop$Standing", name := "copyFrom", desc := "(LBoyBishop$Standing;)V" } : Jvm.MethodName) prog_10_method_3_code (2 : Nat) (Option.none : Option Jvm.ClassFile.FieldType)) ∈ gT := gT_in (List.mem_append_right _ (List.mem_append_right _ (List.mem_append_right _ (List.mem_append_right _ (List.mem_append_left _ (List.mem_of_getElem? (i := 34) rfl)))))) rfl
theorem tw_778 : (Jvm.Cond.methodLink "BoyBishop$Poll" (57 : Nat) ({ cls := "BoyBishop$Poll", name := "isIn", desc := "(II)Z" } : Jvm.MethodName)) ∈ gT := gT_in (List.mem_append_right _ (List.mem_append_right _ (List.mem_append_right _ (List.mem_append_right _ (List.mem_append_left _ (List.mem_of_getElem? (i := 58) rfl)))))) rfl
theorem tw_779 : (Jvm.Cond.static ({ cls := "BoyBishop$Poll", name := "isIn", desc := "(II)Z" } : Jvm.MethodName)) ∈ gT := gT_in (List.mem_append_right _ (List.mem_append_right _ (List.mem_append_right _ (List.mem_append_right _ (List.mem_append_left _ (List.mem_of_getElem? (i := 59) rfl)))))) rfl
theorem tw_780 : (Jvm.Cond.code ({ cls := "BoyBishop$Poll", name := "isIn", desc := "(II)Z" } : Jvm.MethodName) prog_7_method_4_code (2 : Nat) (Option.some Jvm.ClassFile.FieldType.boolean)) ∈ gT := gT_in (List.mem_append_right _ (List.mem_append_right _ (List.mem_append_right _ (List.mem_append_right _ (List.mem_append_left _ (List.mem_of_getElem? (i := 60) rfl)))))) rfl
theorem tw_8 : (Jvm.Cond.initialized "BoyBishop$Standing") ∈ gT := gT_in (List.mem_append_right _ (List.mem_append_left _ (List.mem_of_getElem? (i := 8) rfl))) rfl
theorem tw_80 : (Jvm.Cond.fieldLink "BoyBishop" (127 : Nat) "BoyBishop$Choir" "boys" "I") ∈ gT := gT_in (List.mem_append_right _ (List.mem_append_left _ (List.mem_of_getElem? (i := 80) rfl))) rfl
theorem tw_808 : (Jvm.Cond.methodLink "BoyBishop$Poll" (98 : Nat) ({ cls := "java/util/Arrays", name := "fill", desc := "([II)V" } : Jvm.MethodName)) ∈ gT := gT_in (List.mem_append_right _ (List.mem_append_right _ (List.mem_append_right _ (List.mem_append_right _ (List.mem_append_left _ (List.mem_of_getElem? (i := 88) rfl)))))) rfl
theorem tw_89 : (Jvm.Cond.fieldLink "BoyBishop" (298 : Nat) "BoyBishop$Choir" "farms" "I") ∈ gT := gT_in (List.mem_append_right _ (List.mem_append_left _ (List.mem_of_getElem? (i := 89) rfl))) rfl
theorem dX10_copyFrom_0 : decode cX10_copyFrom 0 = .ok (.aload_n 0, 1) := by decide +kernel
theorem dX10_copyFrom_1 : decode cX10_copyFrom 1 = .ok (.aload_n 1, 1) := by decide +kernel
theorem dX10_copyFrom_2 : decode cX10_copyFrom 2 = .ok (.getfield 9, 3) := by decide +kernel
theorem dX10_copyFrom_5 : decode cX10_copyFrom 5 = .ok (.putfield 9, 3) := by decide +kernel
theorem dX10_copyFrom_8 : decode cX10_copyFrom 8 = .ok (.aload_n 0, 1) := by decide +kernel
theorem dX10_copyFrom_9 : decode cX10_copyFrom 9 = .ok (.getfield 18, 3) := by decide +kernel
theorem dX10_copyFrom_12 : decode cX10_copyFrom 12 = .ok (.aload_n 1, 1) := by decide +kernel
theorem dX10_copyFrom_13 : decode cX10_copyFrom 13 = .ok (.getfield 18, 3) := by decide +kernel
theorem dX10_copyFrom_16 : decode cX10_copyFrom 16 = .ok (.invokevirtual 33, 3) := by decide +kernel
theorem dX10_copyFrom_19 : decode cX10_copyFrom 19 = .ok (.aload_n 0, 1) := by decide +kernel
theorem dX10_copyFrom_20 : decode cX10_copyFrom 20 = .ok (.aload_n 1, 1) := by decide +kernel
theorem dX10_copyFrom_21 : decode cX10_copyFrom 21 = .ok (.getfield 22, 3) := by decide +kernel
theorem dX10_copyFrom_24 : decode cX10_copyFrom 24 = .ok (.putfield 22, 3) := by decide +kernel
theorem dX10_copyFrom_27 : decode cX10_copyFrom 27 = .ok (.aload_n 0, 1) := by decide +kernel
theorem dX10_copyFrom_28 : decode cX10_copyFrom 28 = .ok (.aload_n 1, 1) := by decide +kernel
theorem dX10_copyFrom_29 : decode cX10_copyFrom 29 = .ok (.getfield 37, 3) := by decide +kernel
theorem dX10_copyFrom_32 : decode cX10_copyFrom 32 = .ok (.putfield 37, 3) := by decide +kernel
theorem dX10_copyFrom_35 : decode cX10_copyFrom 35 = .ok (.aload_n 0, 1) := by decide +kernel
theorem dX10_copyFrom_36 : decode cX10_copyFrom 36 = .ok (.aload_n 1, 1) := by decide +kernel
theorem dX10_copyFrom_37 : decode cX10_copyFrom 37 = .ok (.getfield 40, 3) := by decide +kernel
theorem dX10_copyFrom_40 : decode cX10_copyFrom 40 = .ok (.putfield 40, 3) := by decide +kernel
theorem dX10_copyFrom_43 : decode cX10_copyFrom 43 = .ok (.aload_n 1, 1) := by decide +kernel
theorem dX10_copyFrom_44 : decode cX10_copyFrom 44 = .ok (.getfield 26, 3) := by decide +kernel
theorem dX10_copyFrom_47 : decode cX10_copyFrom 47 = .ok (.iconst 0, 1) := by decide +kernel
theorem dX10_copyFrom_48 : decode cX10_copyFrom 48 = .ok (.aload_n 0, 1) := by decide +kernel
theorem dX10_copyFrom_49 : decode cX10_copyFrom 49 = .ok (.getfield 26, 3) := by decide +kernel
theorem dX10_copyFrom_52 : decode cX10_copyFrom 52 = .ok (.iconst 0, 1) := by decide +kernel
theorem dX10_copyFrom_53 : decode cX10_copyFrom 53 = .ok (.bipush 10, 2) := by decide +kernel
theorem dX10_copyFrom_55 : decode cX10_copyFrom 55 = .ok (.invokestatic 43, 3) := by decide +kernel
theorem dX10_copyFrom_58 : decode cX10_copyFrom 58 = .ok (.aload_n 1, 1) := by decide +kernel
theorem dX10_copyFrom_59 : decode cX10_copyFrom 59 = .ok (.getfield 30, 3) := by decide +kernel
theorem dX10_copyFrom_62 : decode cX10_copyFrom 62 = .ok (.iconst 0, 1) := by decide +kernel
theorem dX10_copyFrom_63 : decode cX10_copyFrom 63 = .ok (.aload_n 0, 1) := by decide +kernel
theorem dX10_copyFrom_64 : decode cX10_copyFrom 64 = .ok (.getfield 30, 3) := by decide +kernel
theorem dX10_copyFrom_67 : decode cX10_copyFrom 67 = .ok (.iconst 0, 1) := by decide +kernel
theorem dX10_copyFrom_68 : decode cX10_copyFrom 68 = .ok (.bipush 10, 2) := by decide +kernel
theorem dX10_copyFrom_70 : decode cX10_copyFrom 70 = .ok (.invokestatic 43, 3) := by decide +kernel
theorem dX10_copyFrom_73 : decode cX10_copyFrom 73 = .ok (.return_, 1) := by decide +kernel
theorem dX11_canBeAskedAhead_0 : decode cX11_canBeAskedAhead 0 = .ok (.iload_n 2, 1) := by decide +kernel
theorem dX11_canBeAskedAhead_1 : decode cX11_canBeAskedAhead 1 = .ok (.ifCond .eq 29, 3) := by decide +kernel
theorem dX11_canBeAskedAhead_4 : decode cX11_canBeAskedAhead 4 = .ok (.iload_n 2, 1) := by decide +kernel
theorem dX11_canBeAskedAhead_5 : decode cX11_canBeAskedAhead 5 = .ok (.iconst 1, 1) := by decide +kernel
theorem dX11_canBeAskedAhead_6 : decode cX11_canBeAskedAhead 6 = .ok (.if_icmp .ne 11, 3) := by decide +kernel
theorem dX11_canBeAskedAhead_9 : decode cX11_canBeAskedAhead 9 = .ok (.aload_n 0, 1) := by decide +kernel
theorem dX11_canBeAskedAhead_10 : decode cX11_canBeAskedAhead 10 = .ok (.iload_n 1, 1) := by decide +kernel
theorem dX11_canBeAskedAhead_11 : decode cX11_canBeAskedAhead 11 = .ok (.invokevirtual 139, 3) := by decide +kernel
theorem dX11_canBeAskedAhead_14 : decode cX11_canBeAskedAhead 14 = .ok (.ifCond .ne 16, 3) := by decide +kernel
theorem dX11_canBeAskedAhead_17 : decode cX11_canBeAskedAhead 17 = .ok (.iload_n 2, 1) := by decide +kernel
theorem dX11_canBeAskedAhead_18 : decode cX11_canBeAskedAhead 18 = .ok (.iconst 2, 1) := by decide +kernel
theorem dX11_canBeAskedAhead_19 : decode cX11_canBeAskedAhead 19 = .ok (.if_icmp .ne 15, 3) := by decide +kernel
theorem dX11_canBeAskedAhead_22 : decode cX11_canBeAskedAhead 22 = .ok (.aload_n 0, 1) := by decide +kernel
theorem dX11_canBeAskedAhead_23 : decode cX11_canBeAskedAhead 23 = .ok (.iload_n 1, 1) := by decide +kernel
theorem dX11_canBeAskedAhead_24 : decode cX11_canBeAskedAhead 24 = .ok (.invokevirtual 173, 3) := by decide +kernel
theorem dX11_canBeAskedAhead_27 : decode cX11_canBeAskedAhead 27 = .ok (.ifCond .eq 7, 3) := by decide +kernel
theorem dX11_canBeAskedAhead_30 : decode cX11_canBeAskedAhead 30 = .ok (.iconst 1, 1) := by decide +kernel
theorem dX11_canBeAskedAhead_31 : decode cX11_canBeAskedAhead 31 = .ok (.goto 4, 3) := by decide +kernel
theorem dX11_canBeAskedAhead_34 : decode cX11_canBeAskedAhead 34 = .ok (.iconst 0, 1) := by decide +kernel
theorem dX11_canBeAskedAhead_35 : decode cX11_canBeAskedAhead 35 = .ok (.ireturn, 1) := by decide +kernel
theorem dX11_isBoy_0 : decode cX11_isBoy 0 = .ok (.iload_n 1, 1) := by decide +kernel
theorem dX11_isBoy_1 : decode cX11_isBoy 1 = .ok (.ifCond .lt 21, 3) := by decide +kernel
theorem dX11_isBoy_4 : decode cX11_isBoy 4 = .ok (.iload_n 1, 1) := by decide +kernel
theorem dX11_isBoy_5 : decode cX11_isBoy 5 = .ok (.aload_n 0, 1) := by decide +kernel
theorem dX11_isBoy_6 : decode cX11_isBoy 6 = .ok (.getfield 45, 3) := by decide +kernel
theorem dX11_isBoy_9 : decode cX11_isBoy 9 = .ok (.getfield 53, 3) := by decide +kernel
theorem dX11_isBoy_12 : decode cX11_isBoy 12 = .ok (.getfield 127, 3) := by decide +kernel
theorem dX11_isBoy_15 : decode cX11_isBoy 15 = .ok (.if_icmp .ge 7, 3) := by decide +kernel
theorem dX11_isBoy_18 : decode cX11_isBoy 18 = .ok (.iconst 1, 1) := by decide +kernel
theorem dX11_isBoy_19 : decode cX11_isBoy 19 = .ok (.goto 4, 3) := by decide +kernel
theorem dX11_isBoy_22 : decode cX11_isBoy 22 = .ok (.iconst 0, 1) := by decide +kernel
theorem dX11_isBoy_23 : decode cX11_isBoy 23 = .ok (.ireturn, 1) := by decide +kernel
theorem dX11_isFarm_0 : decode cX11_isFarm 0 = .ok (.iload_n 1, 1) := by decide +kernel
theorem dX11_isFarm_1 : decode cX11_isFarm 1 = .ok (.ifCond .lt 21, 3) := by decide +kernel
theorem dX11_isFarm_4 : decode cX11_isFarm 4 = .ok (.iload_n 1, 1) := by decide +kernel
theorem dX11_isFarm_5 : decode cX11_isFarm 5 = .ok (.aload_n 0, 1) := by decide +kernel
theorem dX11_isFarm_6 : decode cX11_isFarm 6 = .ok (.getfield 45, 3) := by decide +kernel
theorem dX11_isFarm_9 : decode cX11_isFarm 9 = .ok (.getfield 53, 3) := by decide +kernel
theorem dX11_isFarm_12 : decode cX11_isFarm 12 = .ok (.getfield 298, 3) := by decide +kernel
theorem dX11_isFarm_15 : decode cX11_isFarm 15 = .ok (.if_icmp .ge 7, 3) := by decide +kernel
theorem dX11_isFarm_18 : decode cX11_isFarm 18 = .ok (.iconst 1, 1) := by decide +kernel
theorem dX11_isFarm_19 : decode cX11_isFarm 19 = .ok (.goto 4, 3) := by decide +kernel
theorem dX11_isFarm_22 : decode cX11_isFarm 22 = .ok (.iconst 0, 1) := by decide +kernel
theorem dX11_isFarm_23 : decode cX11_isFarm 23 = .ok (.ireturn, 1) := by decide +kernel
theorem dX11_ruleInForce_0 : decode cX11_ruleInForce 0 = .ok (.aload_n 0, 1) := by decide +kernel
theorem dX11_ruleInForce_1 : decode cX11_ruleInForce 1 = .ok (.getfield 45, 3) := by decide +kernel
theorem dX11_ruleInForce_4 : decode cX11_ruleInForce 4 = .ok (.getfield 136, 3) := by decide +kernel
theorem dX11_ruleInForce_7 : decode cX11_ruleInForce 7 = .ok (.ifCond .lt 32, 3) := by decide +kernel
theorem dX11_ruleInForce_10 : decode cX11_ruleInForce 10 = .ok (.aload_n 0, 1) := by decide +kernel
theorem dX11_ruleInForce_11 : decode cX11_ruleInForce 11 = .ok (.getfield 45, 3) := by decide +kernel
theorem dX11_ruleInForce_14 : decode cX11_ruleInForce 14 = .ok (.getfield 136, 3) := by decide +kernel
theorem dX11_ruleInForce_17 : decode cX11_ruleInForce 17 = .ok (.aload_n 0, 1) := by decide +kernel
theorem dX11_ruleInForce_18 : decode cX11_ruleInForce 18 = .ok (.getfield 130, 3) := by decide +kernel
theorem dX11_ruleInForce_21 : decode cX11_ruleInForce 21 = .ok (.if_icmp .ge 18, 3) := by decide +kernel
theorem dX11_ruleInForce_24 : decode cX11_ruleInForce 24 = .ok (.aload_n 0, 1) := by decide +kernel
theorem dX11_ruleInForce_25 : decode cX11_ruleInForce 25 = .ok (.getfield 32, 3) := by decide +kernel
theorem dX11_ruleInForce_28 : decode cX11_ruleInForce 28 = .ok (.aload_n 0, 1) := by decide +kernel
theorem dX11_ruleInForce_29 : decode cX11_ruleInForce 29 = .ok (.getfield 45, 3) := by decide +kernel
theorem dX11_ruleInForce_32 : decode cX11_ruleInForce 32 = .ok (.getfield 136, 3) := by decide +kernel
theorem dX11_ruleInForce_35 : decode cX11_ruleInForce 35 = .ok (.aaload, 1) := by decide +kernel
theorem dX11_ruleInForce_36 : decode cX11_ruleInForce 36 = .ok (.goto 4, 3) := by decide +kernel
theorem dX11_ruleInForce_39 : decode cX11_ruleInForce 39 = .ok (.aconst_null, 1) := by decide +kernel
theorem dX11_ruleInForce_40 : decode cX11_ruleInForce 40 = .ok (.areturn, 1) := by decide +kernel
theorem dX5_chosenWith_0 : decode cX5_chosenWith 0 = .ok (.aload_n 0, 1) := by decide +kernel
theorem dX5_chosenWith_1 : decode cX5_chosenWith 1 = .ok (.getfield 19, 3) := by decide +kernel
theorem dX5_chosenWith_4 : decode cX5_chosenWith 4 = .ok (.iconst 0, 1) := by decide +kernel
theorem dX5_chosenWith_5 : decode cX5_chosenWith 5 = .ok (.invokestatic 98, 3) := by decide +kernel
theorem dX5_chosenWith_8 : decode cX5_chosenWith 8 = .ok (.iconst 0, 1) := by decide +kernel
theorem dX5_chosenWith_9 : decode cX5_chosenWith 9 = .ok (.istore_n 3, 1) := by decide +kernel
theorem dX5_chosenWith_10 : decode cX5_chosenWith 10 = .ok (.iload_n 3, 1) := by decide +kernel
theorem dX5_chosenWith_11 : decode cX5_chosenWith 11 = .ok (.aload_n 0, 1) := by decide +kernel
theorem dX5_chosenWith_12 : decode cX5_chosenWith 12 = .ok (.getfield 36, 3) := by decide +kernel
theorem dX5_chosenWith_15 : decode cX5_chosenWith 15 = .ok (.if_icmp .ge 46, 3) := by decide +kernel
theorem dX5_chosenWith_18 : decode cX5_chosenWith 18 = .ok (.iload_n 2, 1) := by decide +kernel
theorem dX5_chosenWith_19 : decode cX5_chosenWith 19 = .ok (.iload_n 3, 1) := by decide +kernel
theorem dX5_chosenWith_20 : decode cX5_chosenWith 20 = .ok (.invokestatic 57, 3) := by decide +kernel
theorem dX5_chosenWith_23 : decode cX5_chosenWith 23 = .ok (.ifCond .eq 7, 3) := by decide +kernel
theorem dX5_chosenWith_26 : decode cX5_chosenWith 26 = .ok (.iload_n 1, 1) := by decide +kernel
theorem dX5_chosenWith_27 : decode cX5_chosenWith 27 = .ok (.goto 9, 3) := by decide +kernel
theorem dX5_chosenWith_30 : decode cX5_chosenWith 30 = .ok (.aload_n 0, 1) := by decide +kernel
theorem dX5_chosenWith_31 : decode cX5_chosenWith 31 = .ok (.getfield 15, 3) := by decide +kernel
theorem dX5_chosenWith_34 : decode cX5_chosenWith 34 = .ok (.iload_n 3, 1) := by decide +kernel
theorem dX5_chosenWith_35 : decode cX5_chosenWith 35 = .ok (.iaload, 1) := by decide +kernel
theorem dX5_chosenWith_36 : decode cX5_chosenWith 36 = .ok (.istore 4, 2) := by decide +kernel
theorem dX5_chosenWith_38 : decode cX5_chosenWith 38 = .ok (.iload 4, 2) := by decide +kernel
theorem dX5_chosenWith_40 : decode cX5_chosenWith 40 = .ok (.iconst (-1), 1) := by decide +kernel
theorem dX5_chosenWith_41 : decode cX5_chosenWith 41 = .ok (.if_icmp .eq 14, 3) := by decide +kernel
theorem dX5_chosenWith_44 : decode cX5_chosenWith 44 = .ok (.aload_n 0, 1) := by decide +kernel
theorem dX5_chosenWith_45 : decode cX5_chosenWith 45 = .ok (.getfield 19, 3) := by decide +kernel
theorem dX5_chosenWith_48 : decode cX5_chosenWith 48 = .ok (.iload 4, 2) := by decide +kernel
theorem dX5_chosenWith_50 : decode cX5_chosenWith 50 = .ok (.dup2, 1) := by decide +kernel
theorem dX5_chosenWith_51 : decode cX5_chosenWith 51 = .ok (.iaload, 1) := by decide +kernel
theorem dX5_chosenWith_52 : decode cX5_chosenWith 52 = .ok (.iconst 1, 1) := by decide +kernel
theorem dX5_chosenWith_53 : decode cX5_chosenWith 53 = .ok (.iadd, 1) := by decide +kernel
theorem dX5_chosenWith_54 : decode cX5_chosenWith 54 = .ok (.iastore, 1) := by decide +kernel
theorem dX5_chosenWith_55 : decode cX5_chosenWith 55 = .ok (.iinc 3 1, 3) := by decide +kernel
theorem dX5_chosenWith_58 : decode cX5_chosenWith 58 = .ok (.goto (-48), 3) := by decide +kernel
theorem dX5_chosenWith_61 : decode cX5_chosenWith 61 = .ok (.iconst (-1), 1) := by decide +kernel
theorem dX5_chosenWith_62 : decode cX5_chosenWith 62 = .ok (.istore_n 3, 1) := by decide +kernel
theorem dX5_chosenWith_63 : decode cX5_chosenWith 63 = .ok (.iconst 0, 1) := by decide +kernel
theorem dX5_chosenWith_64 : decode cX5_chosenWith 64 = .ok (.istore 4, 2) := by decide +kernel
theorem dX5_chosenWith_66 : decode cX5_chosenWith 66 = .ok (.iload 4, 2) := by decide +kernel
theorem dX5_chosenWith_68 : decode cX5_chosenWith 68 = .ok (.aload_n 0, 1) := by decide +kernel
theorem dX5_chosenWith_69 : decode cX5_chosenWith 69 = .ok (.getfield 36, 3) := by decide +kernel
theorem dX5_chosenWith_72 : decode cX5_chosenWith 72 = .ok (.if_icmp .ge 43, 3) := by decide +kernel
theorem dX5_chosenWith_75 : decode cX5_chosenWith 75 = .ok (.aload_n 0, 1) := by decide +kernel
theorem dX5_chosenWith_76 : decode cX5_chosenWith 76 = .ok (.getfield 19, 3) := by decide +kernel
theorem dX5_chosenWith_79 : decode cX5_chosenWith 79 = .ok (.iload 4, 2) := by decide +kernel
theorem dX5_chosenWith_81 : decode cX5_chosenWith 81 = .ok (.iaload, 1) := by decide +kernel
theorem dX5_chosenWith_82 : decode cX5_chosenWith 82 = .ok (.ifCond .le 27, 3) := by decide +kernel
theorem dX5_chosenWith_85 : decode cX5_chosenWith 85 = .ok (.iload_n 3, 1) := by decide +kernel
theorem dX5_chosenWith_86 : decode cX5_chosenWith 86 = .ok (.iconst (-1), 1) := by decide +kernel
theorem dX5_chosenWith_87 : decode cX5_chosenWith 87 = .ok (.if_icmp .eq 19, 3) := by decide +kernel
theorem dX5_chosenWith_90 : decode cX5_chosenWith 90 = .ok (.aload_n 0, 1) := by decide +kernel
theorem dX5_chosenWith_91 : decode cX5_chosenWith 91 = .ok (.getfield 19, 3) := by decide +kernel
theorem dX5_chosenWith_94 : decode cX5_chosenWith 94 = .ok (.iload 4, 2) := by decide +kernel
theorem dX5_chosenWith_96 : decode cX5_chosenWith 96 = .ok (.iaload, 1) := by decide +kernel
theorem dX5_chosenWith_97 : decode cX5_chosenWith 97 = .ok (.aload_n 0, 1) := by decide +kernel
theorem dX5_chosenWith_98 : decode cX5_chosenWith 98 = .ok (.getfield 19, 3) := by decide +kernel
theorem dX5_chosenWith_101 : decode cX5_chosenWith 101 = .ok (.iload_n 3, 1) := by decide +kernel
theorem dX5_chosenWith_102 : decode cX5_chosenWith 102 = .ok (.iaload, 1) := by decide +kernel
theorem dX5_chosenWith_103 : decode cX5_chosenWith 103 = .ok (.if_icmp .le 6, 3) := by decide +kernel
theorem dX5_chosenWith_106 : decode cX5_chosenWith 106 = .ok (.iload 4, 2) := by decide +kernel
theorem dX5_chosenWith_108 : decode cX5_chosenWith 108 = .ok (.istore_n 3, 1) := by decide +kernel
theorem dX5_chosenWith_109 : decode cX5_chosenWith 109 = .ok (.iinc 4 1, 3) := by decide +kernel
theorem dX5_chosenWith_112 : decode cX5_chosenWith 112 = .ok (.goto (-46), 3) := by decide +kernel
theorem dX5_chosenWith_115 : decode cX5_chosenWith 115 = .ok (.iload_n 3, 1) := by decide +kernel
theorem dX5_chosenWith_116 : decode cX5_chosenWith 116 = .ok (.ireturn, 1) := by decide +kernel
theorem dX5_isIn_0 : decode cX5_isIn 0 = .ok (.iload_n 0, 1) := by decide +kernel
theorem dX5_isIn_1 : decode cX5_isIn 1 = .ok (.iload_n 1, 1) := by decide +kernel
theorem dX5_isIn_2 : decode cX5_isIn 2 = .ok (.ishr, 1) := by decide +kernel
theorem dX5_isIn_3 : decode cX5_isIn 3 = .ok (.iconst 1, 1) := by decide +kernel
theorem dX5_isIn_4 : decode cX5_isIn 4 = .ok (.iand, 1) := by decide +kernel
theorem dX5_isIn_5 : decode cX5_isIn 5 = .ok (.iconst 1, 1) := by decide +kernel
theorem dX5_isIn_6 : decode cX5_isIn 6 = .ok (.if_icmp .ne 7, 3) := by decide +kernel
theorem dX5_isIn_9 : decode cX5_isIn 9 = .ok (.iconst 1, 1) := by decide +kernel
theorem dX5_isIn_10 : decode cX5_isIn 10 = .ok (.goto 4, 3) := by decide +kernel
theorem dX5_isIn_13 : decode cX5_isIn 13 = .ok (.iconst 0, 1) := by decide +kernel
theorem dX5_isIn_14 : decode cX5_isIn 14 = .ok (.ireturn, 1) := by decide +kernel
theorem dX8_copyFrom_0 : decode cX8_copyFrom 0 = .ok (.aload_n 0, 1) := by decide +kernel
theorem dX8_copyFrom_1 : decode cX8_copyFrom 1 = .ok (.aload_n 1, 1) := by decide +kernel
theorem dX8_copyFrom_2 : decode cX8_copyFrom 2 = .ok (.getfield 37, 3) := by decide +kernel
theorem dX8_copyFrom_5 : decode cX8_copyFrom 5 = .ok (.putfield 37, 3) := by decide +kernel
theorem dX8_copyFrom_8 : decode cX8_copyFrom 8 = .ok (.aload_n 0, 1) := by decide +kernel
theorem dX8_copyFrom_9 : decode cX8_copyFrom 9 = .ok (.aload_n 1, 1) := by decide +kernel
theorem dX8_copyFrom_10 : decode cX8_copyFrom 10 = .ok (.getfield 9, 3) := by decide +kernel
theorem dX8_copyFrom_13 : decode cX8_copyFrom 13 = .ok (.putfield 9, 3) := by decide +kernel
theorem dX8_copyFrom_16 : decode cX8_copyFrom 16 = .ok (.aload_n 0, 1) := by decide +kernel
theorem dX8_copyFrom_17 : decode cX8_copyFrom 17 = .ok (.aload_n 1, 1) := by decide +kernel
theorem dX8_copyFrom_18 : decode cX8_copyFrom 18 = .ok (.getfield 15, 3) := by decide +kernel
theorem dX8_copyFrom_21 : decode cX8_copyFrom 21 = .ok (.putfield 15, 3) := by decide +kernel
theorem dX8_copyFrom_24 : decode cX8_copyFrom 24 = .ok (.aload_n 0, 1) := by decide +kernel
theorem dX8_copyFrom_25 : decode cX8_copyFrom 25 = .ok (.aload_n 1, 1) := by decide +kernel
theorem dX8_copyFrom_26 : decode cX8_copyFrom 26 = .ok (.getfield 40, 3) := by decide +kernel
theorem dX8_copyFrom_29 : decode cX8_copyFrom 29 = .ok (.putfield 40, 3) := by decide +kernel
theorem dX8_copyFrom_32 : decode cX8_copyFrom 32 = .ok (.aload_n 0, 1) := by decide +kernel
theorem dX8_copyFrom_33 : decode cX8_copyFrom 33 = .ok (.aload_n 1, 1) := by decide +kernel
theorem dX8_copyFrom_34 : decode cX8_copyFrom 34 = .ok (.getfield 44, 3) := by decide +kernel
theorem dX8_copyFrom_37 : decode cX8_copyFrom 37 = .ok (.putfield 44, 3) := by decide +kernel
theorem dX8_copyFrom_40 : decode cX8_copyFrom 40 = .ok (.aload_n 0, 1) := by decide +kernel
theorem dX8_copyFrom_41 : decode cX8_copyFrom 41 = .ok (.aload_n 1, 1) := by decide +kernel
theorem dX8_copyFrom_42 : decode cX8_copyFrom 42 = .ok (.getfield 47, 3) := by decide +kernel
theorem dX8_copyFrom_45 : decode cX8_copyFrom 45 = .ok (.putfield 47, 3) := by decide +kernel
theorem dX8_copyFrom_48 : decode cX8_copyFrom 48 = .ok (.aload_n 0, 1) := by decide +kernel
theorem dX8_copyFrom_49 : decode cX8_copyFrom 49 = .ok (.aload_n 1, 1) := by decide +kernel
theorem dX8_copyFrom_50 : decode cX8_copyFrom 50 = .ok (.getfield 50, 3) := by decide +kernel
theorem dX8_copyFrom_53 : decode cX8_copyFrom 53 = .ok (.putfield 50, 3) := by decide +kernel
theorem dX8_copyFrom_56 : decode cX8_copyFrom 56 = .ok (.aload_n 1, 1) := by decide +kernel
theorem dX8_copyFrom_57 : decode cX8_copyFrom 57 = .ok (.getfield 18, 3) := by decide +kernel
theorem dX8_copyFrom_60 : decode cX8_copyFrom 60 = .ok (.iconst 0, 1) := by decide +kernel
theorem dX8_copyFrom_61 : decode cX8_copyFrom 61 = .ok (.aload_n 0, 1) := by decide +kernel
theorem dX8_copyFrom_62 : decode cX8_copyFrom 62 = .ok (.getfield 18, 3) := by decide +kernel
theorem dX8_copyFrom_65 : decode cX8_copyFrom 65 = .ok (.iconst 0, 1) := by decide +kernel
theorem dX8_copyFrom_66 : decode cX8_copyFrom 66 = .ok (.bipush 6, 2) := by decide +kernel
theorem dX8_copyFrom_68 : decode cX8_copyFrom 68 = .ok (.invokestatic 56, 3) := by decide +kernel
theorem dX8_copyFrom_71 : decode cX8_copyFrom 71 = .ok (.aload_n 1, 1) := by decide +kernel
theorem dX8_copyFrom_72 : decode cX8_copyFrom 72 = .ok (.getfield 22, 3) := by decide +kernel
theorem dX8_copyFrom_75 : decode cX8_copyFrom 75 = .ok (.iconst 0, 1) := by decide +kernel
theorem dX8_copyFrom_76 : decode cX8_copyFrom 76 = .ok (.aload_n 0, 1) := by decide +kernel
theorem dX8_copyFrom_77 : decode cX8_copyFrom 77 = .ok (.getfield 22, 3) := by decide +kernel
theorem dX8_copyFrom_80 : decode cX8_copyFrom 80 = .ok (.iconst 0, 1) := by decide +kernel
theorem dX8_copyFrom_81 : decode cX8_copyFrom 81 = .ok (.bipush 6, 2) := by decide +kernel
theorem dX8_copyFrom_83 : decode cX8_copyFrom 83 = .ok (.invokestatic 56, 3) := by decide +kernel
theorem dX8_copyFrom_86 : decode cX8_copyFrom 86 = .ok (.aload_n 1, 1) := by decide +kernel
theorem dX8_copyFrom_87 : decode cX8_copyFrom 87 = .ok (.getfield 25, 3) := by decide +kernel
theorem dX8_copyFrom_90 : decode cX8_copyFrom 90 = .ok (.iconst 0, 1) := by decide +kernel
theorem dX8_copyFrom_91 : decode cX8_copyFrom 91 = .ok (.aload_n 0, 1) := by decide +kernel
theorem dX8_copyFrom_92 : decode cX8_copyFrom 92 = .ok (.getfield 25, 3) := by decide +kernel
theorem dX8_copyFrom_95 : decode cX8_copyFrom 95 = .ok (.iconst 0, 1) := by decide +kernel
theorem dX8_copyFrom_96 : decode cX8_copyFrom 96 = .ok (.bipush 6, 2) := by decide +kernel
theorem dX8_copyFrom_98 : decode cX8_copyFrom 98 = .ok (.invokestatic 56, 3) := by decide +kernel
theorem dX8_copyFrom_101 : decode cX8_copyFrom 101 = .ok (.aload_n 1, 1) := by decide +kernel
theorem dX8_copyFrom_102 : decode cX8_copyFrom 102 = .ok (.getfield 28, 3) := by decide +kernel
theorem dX8_copyFrom_105 : decode cX8_copyFrom 105 = .ok (.iconst 0, 1) := by decide +kernel
theorem dX8_copyFrom_106 : decode cX8_copyFrom 106 = .ok (.aload_n 0, 1) := by decide +kernel
theorem dX8_copyFrom_107 : decode cX8_copyFrom 107 = .ok (.getfield 28, 3) := by decide +kernel
theorem dX8_copyFrom_110 : decode cX8_copyFrom 110 = .ok (.iconst 0, 1) := by decide +kernel
theorem dX8_copyFrom_111 : decode cX8_copyFrom 111 = .ok (.iconst 4, 1) := by decide +kernel
theorem dX8_copyFrom_112 : decode cX8_copyFrom 112 = .ok (.invokestatic 56, 3) := by decide +kernel
theorem dX8_copyFrom_115 : decode cX8_copyFrom 115 = .ok (.aload_n 1, 1) := by decide +kernel
theorem dX8_copyFrom_116 : decode cX8_copyFrom 116 = .ok (.getfield 31, 3) := by decide +kernel
theorem dX8_copyFrom_119 : decode cX8_copyFrom 119 = .ok (.iconst 0, 1) := by decide +kernel
theorem dX8_copyFrom_120 : decode cX8_copyFrom 120 = .ok (.aload_n 0, 1) := by decide +kernel
theorem dX8_copyFrom_121 : decode cX8_copyFrom 121 = .ok (.getfield 31, 3) := by decide +kernel
theorem dX8_copyFrom_124 : decode cX8_copyFrom 124 = .ok (.iconst 0, 1) := by decide +kernel
theorem dX8_copyFrom_125 : decode cX8_copyFrom 125 = .ok (.iconst 4, 1) := by decide +kernel
theorem dX8_copyFrom_126 : decode cX8_copyFrom 126 = .ok (.invokestatic 56, 3) := by decide +kernel
theorem dX8_copyFrom_129 : decode cX8_copyFrom 129 = .ok (.aload_n 1, 1) := by decide +kernel
theorem dX8_copyFrom_130 : decode cX8_copyFrom 130 = .ok (.getfield 34, 3) := by decide +kernel
theorem dX8_copyFrom_133 : decode cX8_copyFrom 133 = .ok (.iconst 0, 1) := by decide +kernel
theorem dX8_copyFrom_134 : decode cX8_copyFrom 134 = .ok (.aload_n 0, 1) := by decide +kernel
theorem dX8_copyFrom_135 : decode cX8_copyFrom 135 = .ok (.getfield 34, 3) := by decide +kernel
theorem dX8_copyFrom_138 : decode cX8_copyFrom 138 = .ok (.iconst 0, 1) := by decide +kernel
theorem dX8_copyFrom_139 : decode cX8_copyFrom 139 = .ok (.bipush 6, 2) := by decide +kernel
theorem dX8_copyFrom_141 : decode cX8_copyFrom 141 = .ok (.invokestatic 56, 3) := by decide +kernel
theorem dX8_copyFrom_144 : decode cX8_copyFrom 144 = .ok (.return_, 1) := by decide +kernel
theorem iX10 : ∀ w ∈ u_ws RX10 TX10 8, w ∈ gT := i_of (by decide +kernel)
theorem iX11 : ∀ w ∈ u_ws RX11 TX11 12, w ∈ gT := i_of (by decide +kernel)
theorem iX5 : ∀ w ∈ u_ws RX5 TX5 8, w ∈ gT := i_of (by decide +kernel)
theorem iX8 : ∀ w ∈ u_ws RX8 TX8 13, w ∈ gT := i_of (by decide +kernel)
theorem li_m1 : ((-1) : Int32).toInt = -1 := by decide
set_option maxHeartbeats 4000000 in
set_option maxRecDepth 100000 in
theorem t_X8_copyFrom (l : Launch) (dC : Nat → ClassId) (dI : Nat → Nat → Nat) (tys : List (ClassId × FieldType)) (κ : tK) (B : Nat) (ws : va_W) (hT : Ty κ tys B ws) (a0 : Nat) (k_a0 : κ a0 = some 8) (a1 : Nat) (k_a1 : κ a1 = some 8) (f0 : Int32) (l_f0 : (-1) ≤ f0.toInt) (h_f0 : f0.toInt ≤ 5) (f_a1_X8_1 : fld ws a1 8 1 (.int f0)) (sz : Nat) : Met l yX8_copyFrom (ws_u yX8_copyFrom cX8_copyFrom 2 none) ({ frames := 1, cells := 0, slots := 0, locals := 60 }) (va_Pc [.ref a0, .ref a1] (cPre (dC, dI) tys ws sz)) (va_Qv (fun (w : va_W) => Ty κ tys B w ∧ Sm [(8, 0), (8, 1), (8, 2), (8, 3), (8, 4), (8, 5), (8, 6)] [43, 44, 45, 46, 47, 48] κ ws w ∧ fld w a1 8 1 (.int f0)) (fun w t => cPost (dC, dI) tys w (va_A ws sz) t) (va_A ws sz)) 0 0 (va_A ws sz) := by
  refine Met.ofW (cc := cX8_copyFrom) (maxL := 2) (ret := none) (by decide) rfl ?_
  intro p e s m args below meth c s₁ B0 hml hv
  obtain ⟨rfl, hsz, hP, hK, hD0, hE⟩ := hv
  have hx := B0.exec
  have hb := B0.bytes
  have hr := B0.returns
  have hts0 := atoms_spec (ws := ws_u yX8_copyFrom cX8_copyFrom 2 none) B0.pre
  have hts : ∀ w ∈ gT, w.before _ s = true := fun w h => hts0 w (List.mem_cons_of_mem _ h)
  have hown : s.vm.findClass RX8 = some m.cls := findClass_of_methodNamed B0.named
  have hlocks := B0.notSynchronized
  subst hsz
  have hD := hD0.self (sz := s.heap.size)
  generalize hAe : va_A ws s.heap.size = A at hD ⊢
  have hA : ∀ q : Nat, s.heap.size ≤ q → A q := fun q h => by rw [← hAe]; exact Or.inr h
  have hw : tW (dC, dI) tys κ B A s ws s.heap [] := ⟨hK, hP, hD, va_S.rf, hT⟩
  have hM : Sm [(8, 0), (8, 1), (8, 2), (8, 3), (8, 4), (8, 5), (8, 6)] [43, 44, 45, 46, 47, 48] κ ws ws := Sm.rf
  clear hP hK hD hD0 hts0
  have hl := lv_entry ([.ref a0, .ref a1]) (n := 2) (Nat.le_of_ble_eq_true rfl)
  rw [lg_entry_eq]
  generalize (lg_sl ([.ref a0, .ref a1]) ++ List.replicate (2 - (lg_sl ([.ref a0, .ref a1])).length) Slot.unset).toArray = ls at hl ⊢
  have hl : lv_has ls 2 [(0, .ref a0), (1, .ref a1)] := hl
  refine t_start (fun QQ hQ => ?_)
  refine lv_aload_n hx hb dX8_copyFrom_0 rfl (lv_at hl 0 rfl) ?_
  refine lv_aload_n hx hb dX8_copyFrom_1 rfl (lv_at hl 1 rfl) ?_
  refine t_geti (ci := 8) (C := RX8) (T := TX8) (N := 13) hx hb hts iX8 hown hw k_a1 rfl rfl rfl 0 (by decide) (hts _ tw_220) (fun _ h9 => h9) dX8_copyFrom_2 rfl (fun v2 l_v2 h_v2 f_a1_X8_0 => ?_)
  have l_v2 : (-2147483648) ≤ v2.toInt := l_v2
  have h_v2 : v2.toInt ≤ 2147483647 := h_v2
  refine t_put (ci := 8) (C := RX8) (T := TX8) (N := 13) (v := .int v2) hx hb hts iX8 tyX8 tyX8_ok nmX8 hown hw k_a0 rfl rfl rfl 0 (by decide) (hts _ tw_220) (fun _ h9 => h9) rfl (tyX8_ok 0 (by decide)) rfl rfl (okV.int rfl (by omega) (by omega)) dX8_copyFrom_5 (fun w_1 H locs hw u => ?_)
  have hM := hM.up1 u (by decide)
  have f_a1_X8_1 := u.1 _ _ _ _ f_a1_X8_1 (Or.inr (Or.inr (by decide)))
  have f_a1_X8_0 := u.same f_a1_X8_0
  have f_a0_X8_0 := u.2.2
  refine lv_aload_n hx hb dX8_copyFrom_8 rfl (lv_at hl 0 rfl) ?_
  refine lv_aload_n hx hb dX8_copyFrom_9 rfl (lv_at hl 1 rfl) ?_
  refine t_getk (ci := 8) (C := RX8) (T := TX8) (N := 13) hx hb hts iX8 hown hw rfl 1 (by decide) (hts _ tw_223) (fun _ h9 => h9) dX8_copyFrom_10 f_a1_X8_1 ?_
  refine t_put (ci := 8) (C := RX8) (T := TX8) (N := 13) (v := .int f0) hx hb hts iX8 tyX8 tyX8_ok nmX8 hown hw k_a0 rfl rfl rfl 1 (by decide) (hts _ tw_223) (fun _ h9 => h9) rfl (tyX8_ok 1 (by decide)) rfl rfl (okV.int rfl (by omega) (by omega)) dX8_copyFrom_13 (fun w_2 H locs hw u => ?_)
  have hM := hM.up1 u (by decide)
  have f_a1_X8_1 := u.same f_a1_X8_1
  have f_a1_X8_0 := u.1 _ _ _ _ f_a1_X8_0 (Or.inr (Or.inr (by decide)))
  have f_a0_X8_0 := u.1 _ _ _ _ f_a0_X8_0 (Or.inr (Or.inr (by decide)))
  have f_a0_X8_1 := u.2.2
  refine lv_aload_n hx hb dX8_copyFrom_16 rfl (lv_at hl 0 rfl) ?_
  refine lv_aload_n hx hb dX8_copyFrom_17 rfl (lv_at hl 1 rfl) ?_
  refine t_geti (ci := 8) (C := RX8) (T := TX8) (N := 13) hx hb hts iX8 hown hw k_a1 rfl rfl rfl 2 (by decide) (hts _ tw_227) (fun _ h9 => h9) dX8_copyFrom_18 rfl (fun v18 l_v18 h_v18 f_a1_X8_2 => ?_)
  have l_v18 : (-2147483648) ≤ v18.toInt := l_v18
  have h_v18 : v18.toInt ≤ 2147483647 := h_v18
  refine t_put (ci := 8) (C := RX8) (T := TX8) (N := 13) (v := .int v18) hx hb hts iX8 tyX8 tyX8_ok nmX8 hown hw k_a0 rfl rfl rfl 2 (by decide) (hts _ tw_227) (fun _ h9 => h9) rfl (tyX8_ok 2 (by decide)) rfl rfl (okV.int rfl (by omega) (by omega)) dX8_copyFrom_21 (fun w_3 H locs hw u => ?_)
  have hM := hM.up1 u (by decide)
  have f_a1_X8_1 := u.1 _ _ _ _ f_a1_X8_1 (Or.inr (Or.inr (by decide)))
  have f_a1_X8_0 := u.1 _ _ _ _ f_a1_X8_0 (Or.inr (Or.inr (by decide)))
  have f_a0_X8_0 := u.1 _ _ _ _ f_a0_X8_0 (Or.inr (Or.inr (by decide)))
  have f_a0_X8_1 := u.1 _ _ _ _ f_a0_X8_1 (Or.inr (Or.inr (by decide)))
  have f_a1_X8_2 := u.same f_a1_X8_2
  have f_a0_X8_2 := u.2.2
  refine lv_aload_n hx hb dX8_copyFrom_24 rfl (lv_at hl 0 rfl) ?_
  refine lv_aload_n hx hb dX8_copyFrom_25 rfl (lv_at hl 1 rfl) ?_
  refine t_geti (ci := 8) (C := RX8) (T := TX8) (N := 13) hx hb hts iX8 hown hw k_a1 rfl rfl rfl 3 (by decide) (hts _ tw_229) (fun _ h9 => h9) dX8_copyFrom_26 rfl (fun v26 l_v26 h_v26 f_a1_X8_3 => ?_)
  have l_v26 : 0 ≤ v26.toInt := l_v26
  have h_v26 : v26.toInt ≤ 1 := h_v26
  refine t_put (ci := 8) (C := RX8) (T := TX8) (N := 13) (v := .int v26) hx hb hts iX8 tyX8 tyX8_ok nmX8 hown hw k_a0 rfl rfl rfl 3 (by decide) (hts _ tw_229) (fun _ h9 => h9) rfl (tyX8_ok 3 (by decide)) (nb_i (by omega) (by omega)) (fb_i (by omega) (by omega)) (okV.int rfl (by omega) (by omega)) dX8_copyFrom_29 (fun w_4 H locs hw u => ?_)
  have hM := hM.up1 u (by decide)
  have f_a1_X8_1 := u.1 _ _ _ _ f_a1_X8_1 (Or.inr (Or.inr (by decide)))
  have f_a1_X8_0 := u.1 _ _ _ _ f_a1_X8_0 (Or.inr (Or.inr (by decide)))
  have f_a0_X8_0 := u.1 _ _ _ _ f_a0_X8_0 (Or.inr (Or.inr (by decide)))
  have f_a0_X8_1 := u.1 _ _ _ _ f_a0_X8_1 (Or.inr (Or.inr (by decide)))
  have f_a1_X8_2 := u.1 _ _ _ _ f_a1_X8_2 (Or.inr (Or.inr (by decide)))
  have f_a0_X8_2 := u.1 _ _ _ _ f_a0_X8_2 (Or.inr (Or.inr (by decide)))
  have f_a1_X8_3 := u.same f_a1_X8_3
  have f_a0_X8_3 := u.2.2
  refine lv_aload_n hx hb dX8_copyFrom_32 rfl (lv_at hl 0 rfl) ?_
  refine lv_aload_n hx hb dX8_copyFrom_33 rfl (lv_at hl 1 rfl) ?_
  refine t_geti (ci := 8) (C := RX8) (T := TX8) (N := 13) hx hb hts iX8 hown hw k_a1 rfl rfl rfl 4 (by decide) (hts _ tw_231) (fun _ h9 => h9) dX8_copyFrom_34 rfl (fun v34 l_v34 h_v34 f_a1_X8_4 => ?_)
  have l_v34 : (-2147483648) ≤ v34.toInt := l_v34
  have h_v34 : v34.toInt ≤ 2147483647 := h_v34
  refine t_put (ci := 8) (C := RX8) (T := TX8) (N := 13) (v := .int v34) hx hb hts iX8 tyX8 tyX8_ok nmX8 hown hw k_a0 rfl rfl rfl 4 (by decide) (hts _ tw_231) (fun _ h9 => h9) rfl (tyX8_ok 4 (by decide)) rfl rfl (okV.int rfl (by omega) (by omega)) dX8_copyFrom_37 (fun w_5 H locs hw u => ?_)
  have hM := hM.up1 u (by decide)
  have f_a1_X8_1 := u.1 _ _ _ _ f_a1_X8_1 (Or.inr (Or.inr (by decide)))
  have f_a1_X8_0 := u.1 _ _ _ _ f_a1_X8_0 (Or.inr (Or.inr (by decide)))
  have f_a0_X8_0 := u.1 _ _ _ _ f_a0_X8_0 (Or.inr (Or.inr (by decide)))
  have f_a0_X8_1 := u.1 _ _ _ _ f_a0_X8_1 (Or.inr (Or.inr (by decide)))
  have f_a1_X8_2 := u.1 _ _ _ _ f_a1_X8_2 (Or.inr (Or.inr (by decide)))
  have f_a0_X8_2 := u.1 _ _ _ _ f_a0_X8_2 (Or.inr (Or.inr (by decide)))
  have f_a1_X8_3 := u.1 _ _ _ _ f_a1_X8_3 (Or.inr (Or.inr (by decide)))
  have f_a0_X8_3 := u.1 _ _ _ _ f_a0_X8_3 (Or.inr (Or.inr (by decide)))
  have f_a1_X8_4 := u.same f_a1_X8_4
  have f_a0_X8_4 := u.2.2
  refine lv_aload_n hx hb dX8_copyFrom_40 rfl (lv_at hl 0 rfl) ?_
  refine lv_aload_n hx hb dX8_copyFrom_41 rfl (lv_at hl 1 rfl) ?_
  refine t_geti (ci := 8) (C := RX8) (T := TX8) (N := 13) hx hb hts iX8 hown hw k_a1 rfl rfl rfl 5 (by decide) (hts _ tw_234) (fun _ h9 => h9) dX8_copyFrom_42 rfl (fun v42 l_v42 h_v42 f_a1_X8_5 => ?_)
  have l_v42 : (-2147483648) ≤ v42.toInt := l_v42
  have h_v42 : v42.toInt ≤ 2147483647 := h_v42
  refine t_put (ci := 8) (C := RX8) (T := TX8) (N := 13) (v := .int v42) hx hb hts iX8 tyX8 tyX8_ok nmX8 hown hw k_a0 rfl rfl rfl 5 (by decide) (hts _ tw_234) (fun _ h9 => h9) rfl (tyX8_ok 5 (by decide)) rfl rfl (okV.int rfl (by omega) (by omega)) dX8_copyFrom_45 (fun w_6 H locs hw u => ?_)
  have hM := hM.up1 u (by decide)
  have f_a1_X8_1 := u.1 _ _ _ _ f_a1_X8_1 (Or.inr (Or.inr (by decide)))
  have f_a1_X8_0 := u.1 _ _ _ _ f_a1_X8_0 (Or.inr (Or.inr (by decide)))
  have f_a0_X8_0 := u.1 _ _ _ _ f_a0_X8_0 (Or.inr (Or.inr (by decide)))
  have f_a0_X8_1 := u.1 _ _ _ _ f_a0_X8_1 (Or.inr (Or.inr (by decide)))
  have f_a1_X8_2 := u.1 _ _ _ _ f_a1_X8_2 (Or.inr (Or.inr (by decide)))
  have f_a0_X8_2 := u.1 _ _ _ _ f_a0_X8_2 (Or.inr (Or.inr (by decide)))
  have f_a1_X8_3 := u.1 _ _ _ _ f_a1_X8_3 (Or.inr (Or.inr (by decide)))
  have f_a0_X8_3 := u.1 _ _ _ _ f_a0_X8_3 (Or.inr (Or.inr (by decide)))
  have f_a1_X8_4 := u.1 _ _ _ _ f_a1_X8_4 (Or.inr (Or.inr (by decide)))
  have f_a0_X8_4 := u.1 _ _ _ _ f_a0_X8_4 (Or.inr (Or.inr (by decide)))
  have f_a1_X8_5 := u.same f_a1_X8_5
  have f_a0_X8_5 := u.2.2
  refine lv_aload_n hx hb dX8_copyFrom_48 rfl (lv_at hl 0 rfl) ?_
  refine lv_aload_n hx hb dX8_copyFrom_49 rfl (lv_at hl 1 rfl) ?_
  refine t_geti (ci := 8) (C := RX8) (T := TX8) (N := 13) hx hb hts iX8 hown hw k_a1 rfl rfl rfl 6 (by decide) (hts _ tw_236) (fun _ h9 => h9) dX8_copyFrom_50 rfl (fun v50 l_v50 h_v50 f_a1_X8_6 => ?_)
  have l_v50 : (-2147483648) ≤ v50.toInt := l_v50
  have h_v50 : v50.toInt ≤ 2147483647 := h_v50
  refine t_put (ci := 8) (C := RX8) (T := TX8) (N := 13) (v := .int v50) hx hb hts iX8 tyX8 tyX8_ok nmX8 hown hw k_a0 rfl rfl rfl 6 (by decide) (hts _ tw_236) (fun _ h9 => h9) rfl (tyX8_ok 6 (by decide)) rfl rfl (okV.int rfl (by omega) (by omega)) dX8_copyFrom_53 (fun w_7 H locs hw u => ?_)
  have hM := hM.up1 u (by decide)
  have f_a1_X8_1 := u.1 _ _ _ _ f_a1_X8_1 (Or.inr (Or.inr (by decide)))
  have f_a1_X8_0 := u.1 _ _ _ _ f_a1_X8_0 (Or.inr (Or.inr (by decide)))
  have f_a0_X8_0 := u.1 _ _ _ _ f_a0_X8_0 (Or.inr (Or.inr (by decide)))
  have f_a0_X8_1 := u.1 _ _ _ _ f_a0_X8_1 (Or.inr (Or.inr (by decide)))
  have f_a1_X8_2 := u.1 _ _ _ _ f_a1_X8_2 (Or.inr (Or.inr (by decide)))
  have f_a0_X8_2 := u.1 _ _ _ _ f_a0_X8_2 (Or.inr (Or.inr (by decide)))
  have f_a1_X8_3 := u.1 _ _ _ _ f_a1_X8_3 (Or.inr (Or.inr (by decide)))
  have f_a0_X8_3 := u.1 _ _ _ _ f_a0_X8_3 (Or.inr (Or.inr (by decide)))
  have f_a1_X8_4 := u.1 _ _ _ _ f_a1_X8_4 (Or.inr (Or.inr (by decide)))
  have f_a0_X8_4 := u.1 _ _ _ _ f_a0_X8_4 (Or.inr (Or.inr (by decide)))
  have f_a1_X8_5 := u.1 _ _ _ _ f_a1_X8_5 (Or.inr (Or.inr (by decide)))
  have f_a0_X8_5 := u.1 _ _ _ _ f_a0_X8_5 (Or.inr (Or.inr (by decide)))
  have f_a1_X8_6 := u.same f_a1_X8_6
  have f_a0_X8_6 := u.2.2
  refine lv_aload_n hx hb dX8_copyFrom_56 rfl (lv_at hl 1 rfl) ?_
  refine t_getr (k1 := 43) (ci := 8) (C := RX8) (T := TX8) (N := 13) hx hb hts iX8 hown hw k_a1 rfl rfl rfl 7 (by decide) (hts _ tw_238) (fun _ h9 => h9) dX8_copyFrom_57 rfl (fun v57 k_v57 f_a1_X8_7 => ?_)
  refine lv_iconst (v := 0) hx hb dX8_copyFrom_60 (by decide) ?_
  refine lv_aload_n hx hb dX8_copyFrom_61 rfl (lv_at hl 0 rfl) ?_
  refine t_getr (k1 := 43) (ci := 8) (C := RX8) (T := TX8) (N := 13) hx hb hts iX8 hown hw k_a0 rfl rfl rfl 7 (by decide) (hts _ tw_238) (fun _ h9 => h9) dX8_copyFrom_62 rfl (fun v62 k_v62 f_a0_X8_7 => ?_)
  refine lv_iconst (v := 0) hx hb dX8_copyFrom_65 (by decide) ?_
  refine lv_bipush (v := 6) hx hb dX8_copyFrom_66 (by decide) ?_
  refine t_copyi hx hb (hml.trans hl.1.symm) hown (hts _ tw_621) (hts _ tw_623) (hts _ tw_622) (hts _ tw_20) hw k_v57 k_v62 rfl rfl rfl rfl (by decide) (by decide) (by decide) (fun _ _ => rfl) (Nat.le_of_ble_eq_true rfl) (Nat.le_of_ble_eq_true rfl) dX8_copyFrom_68 (fun w_8 H locs y hw u => ?_)
  have hM := hM.up2 u k_v62 (by decide)
  have f_a1_X8_1 := u.1 _ _ _ _ f_a1_X8_1
  have f_a1_X8_0 := u.1 _ _ _ _ f_a1_X8_0
  have f_a0_X8_0 := u.1 _ _ _ _ f_a0_X8_0
  have f_a0_X8_1 := u.1 _ _ _ _ f_a0_X8_1
  have f_a1_X8_2 := u.1 _ _ _ _ f_a1_X8_2
  have f_a0_X8_2 := u.1 _ _ _ _ f_a0_X8_2
  have f_a1_X8_3 := u.1 _ _ _ _ f_a1_X8_3
  have f_a0_X8_3 := u.1 _ _ _ _ f_a0_X8_3
  have f_a1_X8_4 := u.1 _ _ _ _ f_a1_X8_4
  have f_a0_X8_4 := u.1 _ _ _ _ f_a0_X8_4
  have f_a1_X8_5 := u.1 _ _ _ _ f_a1_X8_5
  have f_a0_X8_5 := u.1 _ _ _ _ f_a0_X8_5
  have f_a1_X8_6 := u.1 _ _ _ _ f_a1_X8_6
  have f_a0_X8_6 := u.1 _ _ _ _ f_a0_X8_6
  have f_a1_X8_7 := u.1 _ _ _ _ f_a1_X8_7
  have f_a0_X8_7 := u.1 _ _ _ _ f_a0_X8_7
  refine lv_aload_n hx hb dX8_copyFrom_71 rfl (lv_at hl 1 rfl) ?_
  refine t_getr (k1 := 44) (ci := 8) (C := RX8) (T := TX8) (N := 13) hx hb hts iX8 hown hw k_a1 rfl rfl rfl 8 (by decide) (hts _ tw_242) (fun _ h9 => h9) dX8_copyFrom_72 rfl (fun v72 k_v72 f_a1_X8_8 => ?_)
  refine lv_iconst (v := 0) hx hb dX8_copyFrom_75 (by decide) ?_
  refine lv_aload_n hx hb dX8_copyFrom_76 rfl (lv_at hl 0 rfl) ?_
  refine t_getr (k1 := 44) (ci := 8) (C := RX8) (T := TX8) (N := 13) hx hb hts iX8 hown hw k_a0 rfl rfl rfl 8 (by decide) (hts _ tw_242) (fun _ h9 => h9) dX8_copyFrom_77 rfl (fun v77 k_v77 f_a0_X8_8 => ?_)
  refine lv_iconst (v := 0) hx hb dX8_copyFrom_80 (by decide) ?_
  refine lv_bipush (v := 6) hx hb dX8_copyFrom_81 (by decide) ?_
  refine t_copyi hx hb (hml.trans hl.1.symm) hown (hts _ tw_621) (hts _ tw_623) (hts _ tw_622) (hts _ tw_20) hw k_v72 k_v77 rfl rfl rfl rfl (by decide) (by decide) (by decide) (fun _ _ => rfl) (Nat.le_of_ble_eq_true rfl) (Nat.le_of_ble_eq_true rfl) dX8_copyFrom_83 (fun w_9 H locs y hw u => ?_)
  have hM := hM.up2 u k_v77 (by decide)
  have f_a1_X8_1 := u.1 _ _ _ _ f_a1_X8_1
  have f_a1_X8_0 := u.1 _ _ _ _ f_a1_X8_0
  have f_a0_X8_0 := u.1 _ _ _ _ f_a0_X8_0
  have f_a0_X8_1 := u.1 _ _ _ _ f_a0_X8_1
  have f_a1_X8_2 := u.1 _ _ _ _ f_a1_X8_2
  have f_a0_X8_2 := u.1 _ _ _ _ f_a0_X8_2
  have f_a1_X8_3 := u.1 _ _ _ _ f_a1_X8_3
  have f_a0_X8_3 := u.1 _ _ _ _ f_a0_X8_3
  have f_a1_X8_4 := u.1 _ _ _ _ f_a1_X8_4
  have f_a0_X8_4 := u.1 _ _ _ _ f_a0_X8_4
  have f_a1_X8_5 := u.1 _ _ _ _ f_a1_X8_5
  have f_a0_X8_5 := u.1 _ _ _ _ f_a0_X8_5
  have f_a1_X8_6 := u.1 _ _ _ _ f_a1_X8_6
  have f_a0_X8_6 := u.1 _ _ _ _ f_a0_X8_6
  have f_a1_X8_7 := u.1 _ _ _ _ f_a1_X8_7
  have f_a0_X8_7 := u.1 _ _ _ _ f_a0_X8_7
  have f_a1_X8_8 := u.1 _ _ _ _ f_a1_X8_8
  have f_a0_X8_8 := u.1 _ _ _ _ f_a0_X8_8
  refine lv_aload_n hx hb dX8_copyFrom_86 rfl (lv_at hl 1 rfl) ?_
  refine t_getr (k1 := 45) (ci := 8) (C := RX8) (T := TX8) (N := 13) hx hb hts iX8 hown hw k_a1 rfl rfl rfl 9 (by decide) (hts _ tw_245) (fun _ h9 => h9) dX8_copyFrom_87 rfl (fun v87 k_v87 f_a1_X8_9 => ?_)
  refine lv_iconst (v := 0) hx hb dX8_copyFrom_90 (by decide) ?_
  refine lv_aload_n hx hb dX8_copyFrom_91 rfl (lv_at hl 0 rfl) ?_
  refine t_getr (k1 := 45) (ci := 8) (C := RX8) (T := TX8) (N := 13) hx hb hts iX8 hown hw k_a0 rfl rfl rfl 9 (by decide) (hts _ tw_245) (fun _ h9 => h9) dX8_copyFrom_92 rfl (fun v92 k_v92 f_a0_X8_9 => ?_)
  refine lv_iconst (v := 0) hx hb dX8_copyFrom_95 (by decide) ?_
  refine lv_bipush (v := 6) hx hb dX8_copyFrom_96 (by decide) ?_
  refine t_copyi hx hb (hml.trans hl.1.symm) hown (hts _ tw_621) (hts _ tw_623) (hts _ tw_622) (hts _ tw_20) hw k_v87 k_v92 rfl rfl rfl rfl (by decide) (by decide) (by decide) (fun _ _ => rfl) (Nat.le_of_ble_eq_true rfl) (Nat.le_of_ble_eq_true rfl) dX8_copyFrom_98 (fun w_10 H locs y hw u => ?_)
  have hM := hM.up2 u k_v92 (by decide)
  have f_a1_X8_1 := u.1 _ _ _ _ f_a1_X8_1
  have f_a1_X8_0 := u.1 _ _ _ _ f_a1_X8_0
  have f_a0_X8_0 := u.1 _ _ _ _ f_a0_X8_0
  have f_a0_X8_1 := u.1 _ _ _ _ f_a0_X8_1
  have f_a1_X8_2 := u.1 _ _ _ _ f_a1_X8_2
  have f_a0_X8_2 := u.1 _ _ _ _ f_a0_X8_2
  have f_a1_X8_3 := u.1 _ _ _ _ f_a1_X8_3
  have f_a0_X8_3 := u.1 _ _ _ _ f_a0_X8_3
  have f_a1_X8_4 := u.1 _ _ _ _ f_a1_X8_4
  have f_a0_X8_4 := u.1 _ _ _ _ f_a0_X8_4
  have f_a1_X8_5 := u.1 _ _ _ _ f_a1_X8_5
  have f_a0_X8_5 := u.1 _ _ _ _ f_a0_X8_5
  have f_a1_X8_6 := u.1 _ _ _ _ f_a1_X8_6
  have f_a0_X8_6 := u.1 _ _ _ _ f_a0_X8_6
  have f_a1_X8_7 := u.1 _ _ _ _ f_a1_X8_7
  have f_a0_X8_7 := u.1 _ _ _ _ f_a0_X8_7
  have f_a1_X8_8 := u.1 _ _ _ _ f_a1_X8_8
  have f_a0_X8_8 := u.1 _ _ _ _ f_a0_X8_8
  have f_a1_X8_9 := u.1 _ _ _ _ f_a1_X8_9
  have f_a0_X8_9 := u.1 _ _ _ _ f_a0_X8_9
  refine lv_aload_n hx hb dX8_copyFrom_101 rfl (lv_at hl 1 rfl) ?_
  refine t_getr (k1 := 46) (ci := 8) (C := RX8) (T := TX8) (N := 13) hx hb hts iX8 hown hw k_a1 rfl rfl rfl 10 (by decide) (hts _ tw_248) (fun _ h9 => h9) dX8_copyFrom_102 rfl (fun v102 k_v102 f_a1_X8_10 => ?_)
  refine lv_iconst (v := 0) hx hb dX8_copyFrom_105 (by decide) ?_
  refine lv_aload_n hx hb dX8_copyFrom_106 rfl (lv_at hl 0 rfl) ?_
  refine t_getr (k1 := 46) (ci := 8) (C := RX8) (T := TX8) (N := 13) hx hb hts iX8 hown hw k_a0 rfl rfl rfl 10 (by decide) (hts _ tw_248) (fun _ h9 => h9) dX8_copyFrom_107 rfl (fun v107 k_v107 f_a0_X8_10 => ?_)
  refine lv_iconst (v := 0) hx hb dX8_copyFrom_110 (by decide) ?_
  refine lv_iconst (v := 4) hx hb dX8_copyFrom_111 (by decide) ?_
  refine t_copyi hx hb (hml.trans hl.1.symm) hown (hts _ tw_621) (hts _ tw_623) (hts _ tw_622) (hts _ tw_20) hw k_v102 k_v107 rfl rfl rfl rfl (by decide) (by decide) (by decide) (fun _ _ => rfl) (Nat.le_of_ble_eq_true rfl) (Nat.le_of_ble_eq_true rfl) dX8_copyFrom_112 (fun w_11 H locs y hw u => ?_)
  have hM := hM.up2 u k_v107 (by decide)
  have f_a1_X8_1 := u.1 _ _ _ _ f_a1_X8_1
  have f_a1_X8_0 := u.1 _ _ _ _ f_a1_X8_0
  have f_a0_X8_0 := u.1 _ _ _ _ f_a0_X8_0
  have f_a0_X8_1 := u.1 _ _ _ _ f_a0_X8_1
  have f_a1_X8_2 := u.1 _ _ _ _ f_a1_X8_2
  have f_a0_X8_2 := u.1 _ _ _ _ f_a0_X8_2
  have f_a1_X8_3 := u.1 _ _ _ _ f_a1_X8_3
  have f_a0_X8_3 := u.1 _ _ _ _ f_a0_X8_3
  have f_a1_X8_4 := u.1 _ _ _ _ f_a1_X8_4
  have f_a0_X8_4 := u.1 _ _ _ _ f_a0_X8_4
  have f_a1_X8_5 := u.1 _ _ _ _ f_a1_X8_5
  have f_a0_X8_5 := u.1 _ _ _ _ f_a0_X8_5
  have f_a1_X8_6 := u.1 _ _ _ _ f_a1_X8_6
  have f_a0_X8_6 := u.1 _ _ _ _ f_a0_X8_6
  have f_a1_X8_7 := u.1 _ _ _ _ f_a1_X8_7
  have f_a0_X8_7 := u.1 _ _ _ _ f_a0_X8_7
  have f_a1_X8_8 := u.1 _ _ _ _ f_a1_X8_8
  have f_a0_X8_8 := u.1 _ _ _ _ f_a0_X8_8
  have f_a1_X8_9 := u.1 _ _ _ _ f_a1_X8_9
  have f_a0_X8_9 := u.1 _ _ _ _ f_a0_X8_9
  have f_a1_X8_10 := u.1 _ _ _ _ f_a1_X8_10
  have f_a0_X8_10 := u.1 _ _ _ _ f_a0_X8_10
  refine lv_aload_n hx hb dX8_copyFrom_115 rfl (lv_at hl 1 rfl) ?_
  refine t_getr (k1 := 47) (ci := 8) (C := RX8) (T := TX8) (N := 13) hx hb hts iX8 hown hw k_a1 rfl rfl rfl 11 (by decide) (hts _ tw_250) (fun _ h9 => h9) dX8_copyFrom_116 rfl (fun v116 k_v116 f_a1_X8_11 => ?_)
  refine lv_iconst (v := 0) hx hb dX8_copyFrom_119 (by decide) ?_
  refine lv_aload_n hx hb dX8_copyFrom_120 rfl (lv_at hl 0 rfl) ?_
  refine t_getr (k1 := 47) (ci := 8) (C := RX8) (T := TX8) (N := 13) hx hb hts iX8 hown hw k_a0 rfl rfl rfl 11 (by decide) (hts _ tw_250) (fun _ h9 => h9) dX8_copyFrom_121 rfl (fun v121 k_v121 f_a0_X8_11 => ?_)
  refine lv_iconst (v := 0) hx hb dX8_copyFrom_124 (by decide) ?_
  refine lv_iconst (v := 4) hx hb dX8_copyFrom_125 (by decide) ?_
  refine t_copyi hx hb (hml.trans hl.1.symm) hown (hts _ tw_621) (hts _ tw_623) (hts _ tw_622) (hts _ tw_20) hw k_v116 k_v121 rfl rfl rfl rfl (by decide) (by decide) (by decide) (fun _ _ => rfl) (Nat.le_of_ble_eq_true rfl) (Nat.le_of_ble_eq_true rfl) dX8_copyFrom_126 (fun w_12 H locs y hw u => ?_)
  have hM := hM.up2 u k_v121 (by decide)
  have f_a1_X8_1 := u.1 _ _ _ _ f_a1_X8_1
  have f_a1_X8_0 := u.1 _ _ _ _ f_a1_X8_0
  have f_a0_X8_0 := u.1 _ _ _ _ f_a0_X8_0
  have f_a0_X8_1 := u.1 _ _ _ _ f_a0_X8_1
  have f_a1_X8_2 := u.1 _ _ _ _ f_a1_X8_2
  have f_a0_X8_2 := u.1 _ _ _ _ f_a0_X8_2
  have f_a1_X8_3 := u.1 _ _ _ _ f_a1_X8_3
  have f_a0_X8_3 := u.1 _ _ _ _ f_a0_X8_3
  have f_a1_X8_4 := u.1 _ _ _ _ f_a1_X8_4
  have f_a0_X8_4 := u.1 _ _ _ _ f_a0_X8_4
  have f_a1_X8_5 := u.1 _ _ _ _ f_a1_X8_5
  have f_a0_X8_5 := u.1 _ _ _ _ f_a0_X8_5
  have f_a1_X8_6 := u.1 _ _ _ _ f_a1_X8_6
  have f_a0_X8_6 := u.1 _ _ _ _ f_a0_X8_6
  have f_a1_X8_7 := u.1 _ _ _ _ f_a1_X8_7
  have f_a0_X8_7 := u.1 _ _ _ _ f_a0_X8_7
  have f_a1_X8_8 := u.1 _ _ _ _ f_a1_X8_8
  have f_a0_X8_8 := u.1 _ _ _ _ f_a0_X8_8
  have f_a1_X8_9 := u.1 _ _ _ _ f_a1_X8_9
  have f_a0_X8_9 := u.1 _ _ _ _ f_a0_X8_9
  have f_a1_X8_10 := u.1 _ _ _ _ f_a1_X8_10
  have f_a0_X8_10 := u.1 _ _ _ _ f_a0_X8_10
  have f_a1_X8_11 := u.1 _ _ _ _ f_a1_X8_11
  have f_a0_X8_11 := u.1 _ _ _ _ f_a0_X8_11
  refine lv_aload_n hx hb dX8_copyFrom_129 rfl (lv_at hl 1 rfl) ?_
  refine t_getr (k1 := 48) (ci := 8) (C := RX8) (T := TX8) (N := 13) hx hb hts iX8 hown hw k_a1 rfl rfl rfl 12 (by decide) (hts _ tw_252) (fun _ h9 => h9) dX8_copyFrom_130 rfl (fun v130 k_v130 f_a1_X8_12 => ?_)
  refine lv_iconst (v := 0) hx hb dX8_copyFrom_133 (by decide) ?_
  refine lv_aload_n hx hb dX8_copyFrom_134 rfl (lv_at hl 0 rfl) ?_
  refine t_getr (k1 := 48) (ci := 8) (C := RX8) (T := TX8) (N := 13) hx hb hts iX8 hown hw k_a0 rfl rfl rfl 12 (by decide) (hts _ tw_252) (fun _ h9 => h9) dX8_copyFrom_135 rfl (fun v135 k_v135 f_a0_X8_12 => ?_)
  refine lv_iconst (v := 0) hx hb dX8_copyFrom_138 (by decide) ?_
  refine lv_bipush (v := 6) hx hb dX8_copyFrom_139 (by decide) ?_
  refine t_copyi hx hb (hml.trans hl.1.symm) hown (hts _ tw_621) (hts _ tw_623) (hts _ tw_622) (hts _ tw_20) hw k_v130 k_v135 rfl rfl rfl rfl (by decide) (by decide) (by decide) (fun _ _ => rfl) (Nat.le_of_ble_eq_true rfl) (Nat.le_of_ble_eq_true rfl) dX8_copyFrom_141 (fun w_13 H locs y hw u => ?_)
  have hM := hM.up2 u k_v135 (by decide)
  have f_a1_X8_1 := u.1 _ _ _ _ f_a1_X8_1
  have f_a1_X8_0 := u.1 _ _ _ _ f_a1_X8_0
  have f_a0_X8_0 := u.1 _ _ _ _ f_a0_X8_0
  have f_a0_X8_1 := u.1 _ _ _ _ f_a0_X8_1
  have f_a1_X8_2 := u.1 _ _ _ _ f_a1_X8_2
  have f_a0_X8_2 := u.1 _ _ _ _ f_a0_X8_2
  have f_a1_X8_3 := u.1 _ _ _ _ f_a1_X8_3
  have f_a0_X8_3 := u.1 _ _ _ _ f_a0_X8_3
  have f_a1_X8_4 := u.1 _ _ _ _ f_a1_X8_4
  have f_a0_X8_4 := u.1 _ _ _ _ f_a0_X8_4
  have f_a1_X8_5 := u.1 _ _ _ _ f_a1_X8_5
  have f_a0_X8_5 := u.1 _ _ _ _ f_a0_X8_5
  have f_a1_X8_6 := u.1 _ _ _ _ f_a1_X8_6
  have f_a0_X8_6 := u.1 _ _ _ _ f_a0_X8_6
  have f_a1_X8_7 := u.1 _ _ _ _ f_a1_X8_7
  have f_a0_X8_7 := u.1 _ _ _ _ f_a0_X8_7
  have f_a1_X8_8 := u.1 _ _ _ _ f_a1_X8_8
  have f_a0_X8_8 := u.1 _ _ _ _ f_a0_X8_8
  have f_a1_X8_9 := u.1 _ _ _ _ f_a1_X8_9
  have f_a0_X8_9 := u.1 _ _ _ _ f_a0_X8_9
  have f_a1_X8_10 := u.1 _ _ _ _ f_a1_X8_10
  have f_a0_X8_10 := u.1 _ _ _ _ f_a0_X8_10
  have f_a1_X8_11 := u.1 _ _ _ _ f_a1_X8_11
  have f_a0_X8_11 := u.1 _ _ _ _ f_a0_X8_11
  have f_a1_X8_12 := u.1 _ _ _ _ f_a1_X8_12
  have f_a0_X8_12 := u.1 _ _ _ _ f_a0_X8_12
  rw [hQ]
  refine W.widen (k := 0) (n := 0) (Nat.le_refl _) (Nat.le_refl _) ?_
  exact W.vret hx hb hr (fun t ht hW => ⟨⟨w_13, rfl, ⟨hw.2.2.2.2, hM, f_a1_X8_1⟩, by rw [ht]; exact hw.2.1, va_K.moved hW.alike hw.1, hw.2.2.1⟩, hw.2.2.2.1.F ht⟩) hw.2.2.2.1.2.2 dX8_copyFrom_144
set_option maxHeartbeats 4000000 in
set_option maxRecDepth 100000 in
theorem t_X10_copyFrom (l : Launch) (dC : Nat → ClassId) (dI : Nat → Nat → Nat) (tys : List (ClassId × FieldType)) (κ : tK) (B : Nat) (ws : va_W) (hT : Ty κ tys B ws) (a0 : Nat) (k_a0 : κ a0 = some 10) (a1 : Nat) (k_a1 : κ a1 = some 10) (sz : Nat) : Met l yX10_copyFrom (ws_u yX10_copyFrom cX10_copyFrom 2 none) ({ frames := 2, cells := 0, slots := 0, locals := 81 }) (va_Pc [.ref a0, .ref a1] (cPre (dC, dI) tys ws sz)) (va_Qv (fun (w : va_W) => Ty κ tys B w ∧ Sm [(8, 0), (8, 1), (8, 2), (8, 3), (8, 4), (8, 5), (8, 6), (10, 0), (10, 2), (10, 3), (10, 4)] [43, 44, 45, 46, 47, 48, 50, 51] κ ws w) (fun w t => cPost (dC, dI) tys w (va_A ws sz) t) (va_A ws sz)) 0 0 (va_A ws sz) := by
  refine Met.ofW (cc := cX10_copyFrom) (maxL := 2) (ret := none) (by decide) rfl ?_
  intro p e s m args below meth c s₁ B0 hml hv
  obtain ⟨rfl, hsz, hP, hK, hD0, hE⟩ := hv
  have hx := B0.exec
  have hb := B0.bytes
  have hr := B0.returns
  have hts0 := atoms_spec (ws := ws_u yX10_copyFrom cX10_copyFrom 2 none) B0.pre
  have hts : ∀ w ∈ gT, w.before _ s = true := fun w h => hts0 w (List.mem_cons_of_mem _ h)
  have hown : s.vm.findClass RX10 = some m.cls := findClass_of_methodNamed B0.named
  have hlocks := B0.notSynchronized
  subst hsz
  have hD := hD0.self (sz := s.heap.size)
  generalize hAe : va_A ws s.heap.size = A at hD ⊢
  have hA : ∀ q : Nat, s.heap.size ≤ q → A q := fun q h => by rw [← hAe]; exact Or.inr h
  have hw : tW (dC, dI) tys κ B A s ws s.heap [] := ⟨hK, hP, hD, va_S.rf, hT⟩
  have hM : Sm [(8, 0), (8, 1), (8, 2), (8, 3), (8, 4), (8, 5), (8, 6), (10, 0), (10, 2), (10, 3), (10, 4)] [43, 44, 45, 46, 47, 48, 50, 51] κ ws ws := Sm.rf
  clear hP hK hD hD0 hts0
  have hl := lv_entry ([.ref a0, .ref a1]) (n := 2) (Nat.le_of_ble_eq_true rfl)
  rw [lg_entry_eq]
  generalize (lg_sl ([.ref a0, .ref a1]) ++ List.replicate (2 - (lg_sl ([.ref a0, .ref a1])).length) Slot.unset).toArray = ls at hl ⊢
  have hl : lv_has ls 2 [(0, .ref a0), (1, .ref a1)] := hl
  refine t_start (fun QQ hQ => ?_)
  refine lv_aload_n hx hb dX10_copyFrom_0 rfl (lv_at hl 0 rfl) ?_
  refine lv_aload_n hx hb dX10_copyFrom_1 rfl (lv_at hl 1 rfl) ?_
  refine t_getr (k1 := 0) (ci := 10) (C := RX10) (T := TX10) (N := 8) hx hb hts iX10 hown hw k_a1 rfl rfl rfl 0 (by decide) (hts _ tw_281) (fun _ h9 => h9) dX10_copyFrom_2 rfl (fun v2 k_v2 f_a1_X10_0 => ?_)
  refine t_put (ci := 10) (C := RX10) (T := TX10) (N := 8) (v := .ref v2) hx hb hts iX10 tyX10 tyX10_ok nmX10 hown hw k_a0 rfl rfl rfl 0 (by decide) (hts _ tw_281) (fun _ h9 => h9) rfl (tyX10_ok 0 (by decide)) rfl rfl (okV.ref (k := 0) rfl k_v2) dX10_copyFrom_5 (fun w_1 H locs hw u => ?_)
  have hM := hM.up1 u (by decide)
  have f_a1_X10_0 := u.same f_a1_X10_0
  have f_a0_X10_0 := u.2.2
  refine lv_aload_n hx hb dX10_copyFrom_8 rfl (lv_at hl 0 rfl) ?_
  refine t_getr (k1 := 8) (ci := 10) (C := RX10) (T := TX10) (N := 8) hx hb hts iX10 hown hw k_a0 rfl rfl rfl 1 (by decide) (hts _ tw_284) (fun _ h9 => h9) dX10_copyFrom_9 rfl (fun v9 k_v9 f_a0_X10_1 => ?_)
  refine lv_aload_n hx hb dX10_copyFrom_12 rfl (lv_at hl 1 rfl) ?_
  refine t_getr (k1 := 8) (ci := 10) (C := RX10) (T := TX10) (N := 8) hx hb hts iX10 hown hw k_a1 rfl rfl rfl 1 (by decide) (hts _ tw_284) (fun _ h9 => h9) dX10_copyFrom_13 rfl (fun v13 k_v13 f_a1_X10_1 => ?_)
  obtain ⟨u_v16q0, q_v16q0, f_v13_X8_1⟩ := t_peek (k := 1) hw.2.2.2.2 k_v13 rfl (by decide)
  obtain ⟨v16q0, rfl, l_v16q0, h_v16q0⟩ := q_v16q0.geti (lo := (-1)) (hi := 5) rfl
  refine t_callv (va_runV (As := [.ref v13]) (rest := []) ⟨hx, hb, hml, hown, hts⟩ (t_X8_copyFrom l dC dI tys κ B w_1 hw.2.2.2.2 v9 k_v9 v13 k_v13 v16q0 (by omega) (by omega) f_v13_X8_1 H.size) (cwV 1 hts (gUV tw_1113 tw_752 tw_753 tw_8 tw_754) rfl rfl rfl (by decide +kernel) ⟨(Nat.le_of_ble_eq_true rfl), (Nat.le_of_ble_eq_true rfl)⟩) ⟨cPre.blind, t_recv hw (ci := 8) k_v9 rfl rfl, cPre.use hw.2.1 hw.1 hw.2.2.1 hE⟩ rfl rfl hl.1 rfl (lv_room (Nat.le_of_ble_eq_true rfl)) dX10_copyFrom_16 ⟨(Nat.le_of_ble_eq_true rfl), (Nat.le_of_ble_eq_true rfl)⟩) hw hA (fun _ h => h.1) (fun w_2 H locs hp hw => ?_)
  obtain ⟨_, hm, f_v13_X8_1⟩ := hp
  have hM := hM.trans hm (by decide) (by decide)
  have f_a1_X10_0 := hm.1 _ _ _ _ f_a1_X10_0 (by decide)
  have f_a0_X10_0 := hm.1 _ _ _ _ f_a0_X10_0 (by decide)
  have f_a0_X10_1 := hm.1 _ _ _ _ f_a0_X10_1 (by decide)
  have f_a1_X10_1 := hm.1 _ _ _ _ f_a1_X10_1 (by decide)
  refine lv_aload_n hx hb dX10_copyFrom_19 rfl (lv_at hl 0 rfl) ?_
  refine lv_aload_n hx hb dX10_copyFrom_20 rfl (lv_at hl 1 rfl) ?_
  refine t_geti (ci := 10) (C := RX10) (T := TX10) (N := 8) hx hb hts iX10 hown hw k_a1 rfl rfl rfl 2 (by decide) (hts _ tw_286) (fun _ h9 => h9) dX10_copyFrom_21 rfl (fun v21 l_v21 h_v21 f_a1_X10_2 => ?_)
  have l_v21 : (-2147483648) ≤ v21.toInt := l_v21
  have h_v21 : v21.toInt ≤ 2147483647 := h_v21
  refine t_put (ci := 10) (C := RX10) (T := TX10) (N := 8) (v := .int v21) hx hb hts iX10 tyX10 tyX10_ok nmX10 hown hw k_a0 rfl rfl rfl 2 (by decide) (hts _ tw_286) (fun _ h9 => h9) rfl (tyX10_ok 2 (by decide)) rfl rfl (okV.int rfl (by omega) (by omega)) dX10_copyFrom_24 (fun w_3 H locs hw u => ?_)
  have hM := hM.up1 u (by decide)
  have f_a1_X10_0 := u.1 _ _ _ _ f_a1_X10_0 (Or.inr (Or.inr (by decide)))
  have f_a0_X10_0 := u.1 _ _ _ _ f_a0_X10_0 (Or.inr (Or.inr (by decide)))
  have f_a0_X10_1 := u.1 _ _ _ _ f_a0_X10_1 (Or.inr (Or.inr (by decide)))
  have f_a1_X10_1 := u.1 _ _ _ _ f_a1_X10_1 (Or.inr (Or.inr (by decide)))
  have f_v13_X8_1 := u.1 _ _ _ _ f_v13_X8_1 (Or.inr (Or.inl (by decide)))
  have f_a1_X10_2 := u.same f_a1_X10_2
  have f_a0_X10_2 := u.2.2
  refine lv_aload_n hx hb dX10_copyFrom_27 rfl (lv_at hl 0 rfl) ?_
  refine lv_aload_n hx hb dX10_copyFrom_28 rfl (lv_at hl 1 rfl) ?_
  refine t_geti (ci := 10) (C := RX10) (T := TX10) (N := 8) hx hb hts iX10 hown hw k_a1 rfl rfl rfl 3 (by decide) (hts _ tw_288) (fun _ h9 => h9) dX10_copyFrom_29 rfl (fun v29 l_v29 h_v29 f_a1_X10_3 => ?_)
  have l_v29 : (-2147483648) ≤ v29.toInt := l_v29
  have h_v29 : v29.toInt ≤ 2147483647 := h_v29
  refine t_put (ci := 10) (C := RX10) (T := TX10) (N := 8) (v := .int v29) hx hb hts iX10 tyX10 tyX10_ok nmX10 hown hw k_a0 rfl rfl rfl 3 (by decide) (hts _ tw_288) (fun _ h9 => h9) rfl (tyX10_ok 3 (by decide)) rfl rfl (okV.int rfl (by omega) (by omega)) dX10_copyFrom_32 (fun w_4 H locs hw u => ?_)
  have hM := hM.up1 u (by decide)
  have f_a1_X10_0 := u.1 _ _ _ _ f_a1_X10_0 (Or.inr (Or.inr (by decide)))
  have f_a0_X10_0 := u.1 _ _ _ _ f_a0_X10_0 (Or.inr (Or.inr (by decide)))
  have f_a0_X10_1 := u.1 _ _ _ _ f_a0_X10_1 (Or.inr (Or.inr (by decide)))
  have f_a1_X10_1 := u.1 _ _ _ _ f_a1_X10_1 (Or.inr (Or.inr (by decide)))
  have f_v13_X8_1 := u.1 _ _ _ _ f_v13_X8_1 (Or.inr (Or.inl (by decide)))
  have f_a1_X10_2 := u.1 _ _ _ _ f_a1_X10_2 (Or.inr (Or.inr (by decide)))
  have f_a0_X10_2 := u.1 _ _ _ _ f_a0_X10_2 (Or.inr (Or.inr (by decide)))
  have f_a1_X10_3 := u.same f_a1_X10_3
  have f_a0_X10_3 := u.2.2
  refine lv_aload_n hx hb dX10_copyFrom_35 rfl (lv_at hl 0 rfl) ?_
  refine lv_aload_n hx hb dX10_copyFrom_36 rfl (lv_at hl 1 rfl) ?_
  refine t_geti (ci := 10) (C := RX10) (T := TX10) (N := 8) hx hb hts iX10 hown hw k_a1 rfl rfl rfl 4 (by decide) (hts _ tw_290) (fun _ h9 => h9) dX10_copyFrom_37 rfl (fun v37 l_v37 h_v37 f_a1_X10_4 => ?_)
  have l_v37 : 0 ≤ v37.toInt := l_v37
  have h_v37 : v37.toInt ≤ 10 := h_v37
  refine t_put (ci := 10) (C := RX10) (T := TX10) (N := 8) (v := .int v37) hx hb hts iX10 tyX10 tyX10_ok nmX10 hown hw k_a0 rfl rfl rfl 4 (by decide) (hts _ tw_290) (fun _ h9 => h9) rfl (tyX10_ok 4 (by decide)) rfl rfl (okV.int rfl (by omega) (by omega)) dX10_copyFrom_40 (fun w_5 H locs hw u => ?_)
  have hM := hM.up1 u (by decide)
  have f_a1_X10_0 := u.1 _ _ _ _ f_a1_X10_0 (Or.inr (Or.inr (by decide)))
  have f_a0_X10_0 := u.1 _ _ _ _ f_a0_X10_0 (Or.inr (Or.inr (by decide)))
  have f_a0_X10_1 := u.1 _ _ _ _ f_a0_X10_1 (Or.inr (Or.inr (by decide)))
  have f_a1_X10_1 := u.1 _ _ _ _ f_a1_X10_1 (Or.inr (Or.inr (by decide)))
  have f_v13_X8_1 := u.1 _ _ _ _ f_v13_X8_1 (Or.inr (Or.inl (by decide)))
  have f_a1_X10_2 := u.1 _ _ _ _ f_a1_X10_2 (Or.inr (Or.inr (by decide)))
  have f_a0_X10_2 := u.1 _ _ _ _ f_a0_X10_2 (Or.inr (Or.inr (by decide)))
  have f_a1_X10_3 := u.1 _ _ _ _ f_a1_X10_3 (Or.inr (Or.inr (by decide)))
  have f_a0_X10_3 := u.1 _ _ _ _ f_a0_X10_3 (Or.inr (Or.inr (by decide)))
  have f_a1_X10_4 := u.same f_a1_X10_4
  have f_a0_X10_4 := u.2.2
  refine lv_aload_n hx hb dX10_copyFrom_43 rfl (lv_at hl 1 rfl) ?_
  refine t_getr (k1 := 50) (ci := 10) (C := RX10) (T := TX10) (N := 8) hx hb hts iX10 hown hw k_a1 rfl rfl rfl 5 (by decide) (hts _ tw_293) (fun _ h9 => h9) dX10_copyFrom_44 rfl (fun v44 k_v44 f_a1_X10_5 => ?_)
  refine lv_iconst (v := 0) hx hb dX10_copyFrom_47 (by decide) ?_
  refine lv_aload_n hx hb dX10_copyFrom_48 rfl (lv_at hl 0 rfl) ?_
  refine t_getr (k1 := 50) (ci := 10) (C := RX10) (T := TX10) (N := 8) hx hb hts iX10 hown hw k_a0 rfl rfl rfl 5 (by decide) (hts _ tw_293) (fun _ h9 => h9) dX10_copyFrom_49 rfl (fun v49 k_v49 f_a0_X10_5 => ?_)
  refine lv_iconst (v := 0) hx hb dX10_copyFrom_52 (by decide) ?_
  refine lv_bipush (v := 10) hx hb dX10_copyFrom_53 (by decide) ?_
  refine t_copyi hx hb (hml.trans hl.1.symm) hown (hts _ tw_1114) (hts _ tw_623) (hts _ tw_622) (hts _ tw_20) hw k_v44 k_v49 rfl rfl rfl rfl (by decide) (by decide) (by decide) (fun _ _ => rfl) (Nat.le_of_ble_eq_true rfl) (Nat.le_of_ble_eq_true rfl) dX10_copyFrom_55 (fun w_6 H locs y hw u => ?_)
  have hM := hM.up2 u k_v49 (by decide)
  have f_a1_X10_0 := u.1 _ _ _ _ f_a1_X10_0
  have f_a0_X10_0 := u.1 _ _ _ _ f_a0_X10_0
  have f_a0_X10_1 := u.1 _ _ _ _ f_a0_X10_1
  have f_a1_X10_1 := u.1 _ _ _ _ f_a1_X10_1
  have f_v13_X8_1 := u.1 _ _ _ _ f_v13_X8_1
  have f_a1_X10_2 := u.1 _ _ _ _ f_a1_X10_2
  have f_a0_X10_2 := u.1 _ _ _ _ f_a0_X10_2
  have f_a1_X10_3 := u.1 _ _ _ _ f_a1_X10_3
  have f_a0_X10_3 := u.1 _ _ _ _ f_a0_X10_3
  have f_a1_X10_4 := u.1 _ _ _ _ f_a1_X10_4
  have f_a0_X10_4 := u.1 _ _ _ _ f_a0_X10_4
  have f_a1_X10_5 := u.1 _ _ _ _ f_a1_X10_5
  have f_a0_X10_5 := u.1 _ _ _ _ f_a0_X10_5
  refine lv_aload_n hx hb dX10_copyFrom_58 rfl (lv_at hl 1 rfl) ?_
  refine t_getr (k1 := 51) (ci := 10) (C := RX10) (T := TX10) (N := 8) hx hb hts iX10 hown hw k_a1 rfl rfl rfl 6 (by decide) (hts _ tw_296) (fun _ h9 => h9) dX10_copyFrom_59 rfl (fun v59 k_v59 f_a1_X10_6 => ?_)
  refine lv_iconst (v := 0) hx hb dX10_copyFrom_62 (by decide) ?_
  refine lv_aload_n hx hb dX10_copyFrom_63 rfl (lv_at hl 0 rfl) ?_
  refine t_getr (k1 := 51) (ci := 10) (C := RX10) (T := TX10) (N := 8) hx hb hts iX10 hown hw k_a0 rfl rfl rfl 6 (by decide) (hts _ tw_296) (fun _ h9 => h9) dX10_copyFrom_64 rfl (fun v64 k_v64 f_a0_X10_6 => ?_)
  refine lv_iconst (v := 0) hx hb dX10_copyFrom_67 (by decide) ?_
  refine lv_bipush (v := 10) hx hb dX10_copyFrom_68 (by decide) ?_
  refine t_copyi hx hb (hml.trans hl.1.symm) hown (hts _ tw_1114) (hts _ tw_623) (hts _ tw_622) (hts _ tw_20) hw k_v59 k_v64 rfl rfl rfl rfl (by decide) (by decide) (by decide) (fun _ _ => rfl) (Nat.le_of_ble_eq_true rfl) (Nat.le_of_ble_eq_true rfl) dX10_copyFrom_70 (fun w_7 H locs y hw u => ?_)
  have hM := hM.up2 u k_v64 (by decide)
  have f_a1_X10_0 := u.1 _ _ _ _ f_a1_X10_0
  have f_a0_X10_0 := u.1 _ _ _ _ f_a0_X10_0
  have f_a0_X10_1 := u.1 _ _ _ _ f_a0_X10_1
  have f_a1_X10_1 := u.1 _ _ _ _ f_a1_X10_1
  have f_v13_X8_1 := u.1 _ _ _ _ f_v13_X8_1
  have f_a1_X10_2 := u.1 _ _ _ _ f_a1_X10_2
  have f_a0_X10_2 := u.1 _ _ _ _ f_a0_X10_2
  have f_a1_X10_3 := u.1 _ _ _ _ f_a1_X10_3
  have f_a0_X10_3 := u.1 _ _ _ _ f_a0_X10_3
  have f_a1_X10_4 := u.1 _ _ _ _ f_a1_X10_4
  have f_a0_X10_4 := u.1 _ _ _ _ f_a0_X10_4
  have f_a1_X10_5 := u.1 _ _ _ _ f_a1_X10_5
  have f_a0_X10_5 := u.1 _ _ _ _ f_a0_X10_5
  have f_a1_X10_6 := u.1 _ _ _ _ f_a1_X10_6
  have f_a0_X10_6 := u.1 _ _ _ _ f_a0_X10_6
  rw [hQ]
  refine W.widen (k := 0) (n := 0) (Nat.le_refl _) (Nat.le_refl _) ?_
  exact W.vret hx hb hr (fun t ht hW => ⟨⟨w_7, rfl, ⟨hw.2.2.2.2, hM⟩, by rw [ht]; exact hw.2.1, va_K.moved hW.alike hw.1, hw.2.2.1⟩, hw.2.2.2.1.F ht⟩) hw.2.2.2.1.2.2 dX10_copyFrom_73
set_option maxHeartbeats 4000000 in
set_option maxRecDepth 100000 in
theorem t_X11_isBoy (l : Launch) (dC : Nat → ClassId) (dI : Nat → Nat → Nat) (tys : List (ClassId × FieldType)) (κ : tK) (B : Nat) (ws : va_W) (hT : Ty κ tys B ws) (a0 : Nat) (k_a0 : κ a0 = some 11) (a1 : Int32) (sz : Nat) : Met l yX11_isBoy (ws_u yX11_isBoy cX11_isBoy 2 (some .boolean)) ({ frames := 0, cells := 0, slots := 0, locals := 0 }) (va_Pc [.ref a0, .int a1] (cPre (dC, dI) tys ws sz)) (va_Qi (fun (r : Int32) (w : va_W) => 0 ≤ r.toInt ∧ r.toInt ≤ 1 ∧ Ty κ tys B w ∧ Sm [] [] κ ws w ∧ (r.toInt = 0 ∨ 0 ≤ a1.toInt ∧ a1.toInt ≤ 5)) (fun w t => cPost (dC, dI) tys w (va_A ws sz) t) (va_A ws sz)) 0 0 (va_A ws sz) := by
  refine Met.ofW (cc := cX11_isBoy) (maxL := 2) (ret := (some .boolean)) (by decide) rfl ?_
  intro p e s m args below meth c s₁ B0 hml hv
  obtain ⟨rfl, hsz, hP, hK, hD0, hE⟩ := hv
  have hx := B0.exec
  have hb := B0.bytes
  have hr := B0.returns
  have hts0 := atoms_spec (ws := ws_u yX11_isBoy cX11_isBoy 2 (some .boolean)) B0.pre
  have hts : ∀ w ∈ gT, w.before _ s = true := fun w h => hts0 w (List.mem_cons_of_mem _ h)
  have hown : s.vm.findClass RX11 = some m.cls := findClass_of_methodNamed B0.named
  have hlocks := B0.notSynchronized
  subst hsz
  have hD := hD0.self (sz := s.heap.size)
  generalize hAe : va_A ws s.heap.size = A at hD ⊢
  have hA : ∀ q : Nat, s.heap.size ≤ q → A q := fun q h => by rw [← hAe]; exact Or.inr h
  have hw : tW (dC, dI) tys κ B A s ws s.heap [] := ⟨hK, hP, hD, va_S.rf, hT⟩
  have hM : Sm [] [] κ ws ws := Sm.rf
  clear hP hK hD hD0 hts0
  have l_a1 := i32_lo a1
  have h_a1 := i32_hi a1
  have hl := lv_entry ([.ref a0, .int a1]) (n := 2) (Nat.le_of_ble_eq_true rfl)
  rw [lg_entry_eq]
  generalize (lg_sl ([.ref a0, .int a1]) ++ List.replicate (2 - (lg_sl ([.ref a0, .int a1])).length) Slot.unset).toArray = ls at hl ⊢
  have hl : lv_has ls 2 [(0, .ref a0), (1, .int a1)] := hl
  refine t_start (fun QQ hQ => ?_)
  refine lv_iload_n hx hb dX11_isBoy_0 rfl (lv_at hl 1 rfl) ?_
  refine lv_if_lt (tgt := 22) hx hb dX11_isBoy_1 (by decide) (fun c_1 => ?_) (fun c_1 => ?_)
  · simp only [fa_lt, fa_le, fa_eq, li_0] at c_1
    refine lv_iconst (v := 0) hx hb dX11_isBoy_22 (by decide) ?_
    rw [hQ]
    refine W.widen (k := 0) (n := 0) (Nat.le_refl _) (Nat.le_refl _) ?_
    exact W.zret (v := 0) hx hb hr rfl (fun t ht hW => ⟨⟨0, ws, rfl, ⟨(by decide), (by decide), hw.2.2.2.2, hM, (by have := li_0; omega)⟩, by rw [ht]; exact hw.2.1, va_K.moved hW.alike hw.1, hw.2.2.1⟩, hw.2.2.2.1.F ht⟩) hw.2.2.2.1.2.2 dX11_isBoy_23
  · simp only [fa_lt, fa_le, fa_eq, li_0] at c_1
    refine lv_iload_n hx hb dX11_isBoy_4 rfl (lv_at hl 1 rfl) ?_
    refine lv_aload_n hx hb dX11_isBoy_5 rfl (lv_at hl 0 rfl) ?_
    refine t_getr (k1 := 10) (ci := 11) (C := RX11) (T := TX11) (N := 12) hx hb hts iX11 hown hw k_a0 rfl rfl rfl 5 (by decide) (hts _ tw_428) (fun _ h9 => h9) dX11_isBoy_6 rfl (fun v6 k_v6 f_a0_X11_5 => ?_)
    refine t_getr (k1 := 0) (ci := 10) (C := RX10) (T := TX10) (N := 8) hx hb hts iX10 hown hw k_v6 rfl rfl rfl 0 (by decide) (hts _ tw_282) (fun _ h9 => h9) dX11_isBoy_9 rfl (fun v9 k_v9 f_v6_X10_0 => ?_)
    refine t_geti (ci := 0) (C := RX0) (T := TX0) (N := 16) hx hb hts iX0 hown hw k_v9 rfl rfl rfl 3 (by decide) (hts _ tw_80) (fun _ h9 => h9) dX11_isBoy_12 rfl (fun v12 l_v12 h_v12 f_v9_X0_3 => ?_)
    have l_v12 : 0 ≤ v12.toInt := l_v12
    have h_v12 : v12.toInt ≤ 6 := h_v12
    refine lv_icmp_ge (tgt := 22) hx hb dX11_isBoy_15 (by decide) (fun c_15 => ?_) (fun c_15 => ?_)
    · simp only [fa_lt, fa_le, fa_eq] at c_15
      refine lv_iconst (v := 0) hx hb dX11_isBoy_22 (by decide) ?_
      rw [hQ]
      refine W.widen (k := 0) (n := 0) (Nat.le_refl _) (Nat.le_refl _) ?_
      exact W.zret (v := 0) hx hb hr rfl (fun t ht hW => ⟨⟨0, ws, rfl, ⟨(by decide), (by decide), hw.2.2.2.2, hM, (by have := li_0; omega)⟩, by rw [ht]; exact hw.2.1, va_K.moved hW.alike hw.1, hw.2.2.1⟩, hw.2.2.2.1.F ht⟩) hw.2.2.2.1.2.2 dX11_isBoy_23
    · simp only [fa_lt, fa_le, fa_eq] at c_15
      refine lv_iconst (v := 1) hx hb dX11_isBoy_18 (by decide) ?_
      refine lv_goto (tgt := 23) hx hb dX11_isBoy_19 (by decide) ?_
      rw [hQ]
      refine W.widen (k := 0) (n := 0) (Nat.le_refl _) (Nat.le_refl _) ?_
      exact W.zret (v := 1) hx hb hr rfl (fun t ht hW => ⟨⟨1, ws, rfl, ⟨(by decide), (by decide), hw.2.2.2.2, hM, (by have := li_1; omega)⟩, by rw [ht]; exact hw.2.1, va_K.moved hW.alike hw.1, hw.2.2.1⟩, hw.2.2.2.1.F ht⟩) hw.2.2.2.1.2.2 dX11_isBoy_23
set_option maxHeartbeats 4000000 in
set_option maxRecDepth 100000 in
theorem t_X11_isFarm (l : Launch) (dC : Nat → ClassId) (dI : Nat → Nat → Nat) (tys : List (ClassId × FieldType)) (κ : tK) (B : Nat) (ws : va_W) (hT : Ty κ tys B ws) (a0 : Nat) (k_a0 : κ a0 = some 11) (a1 : Int32) (sz : Nat) : Met l yX11_isFarm (ws_u yX11_isFarm cX11_isFarm 2 (some .boolean)) ({ frames := 0, cells := 0, slots := 0, locals := 0 }) (va_Pc [.ref a0, .int a1] (cPre (dC, dI) tys ws sz)) (va_Qi (fun (r : Int32) (w : va_W) => 0 ≤ r.toInt ∧ r.toInt ≤ 1 ∧ Ty κ tys B w ∧ Sm [] [] κ ws w ∧ (r.toInt = 0 ∨ 0 ≤ a1.toInt ∧ a1.toInt ≤ 5)) (fun w t => cPost (dC, dI) tys w (va_A ws sz) t) (va_A ws sz)) 0 0 (va_A ws sz) := by
  refine Met.ofW (cc := cX11_isFarm) (maxL := 2) (ret := (some .boolean)) (by decide) rfl ?_
  intro p e s m args below meth c s₁ B0 hml hv
  obtain ⟨rfl, hsz, hP, hK, hD0, hE⟩ := hv
  have hx := B0.exec
  have hb := B0.bytes
  have hr := B0.returns
  have hts0 := atoms_spec (ws := ws_u yX11_isFarm cX11_isFarm 2 (some .boolean)) B0.pre
  have hts : ∀ w ∈ gT, w.before _ s = true := fun w h => hts0 w (List.mem_cons_of_mem _ h)
  have hown : s.vm.findClass RX11 = some m.cls := findClass_of_methodNamed B0.named
  have hlocks := B0.notSynchronized
  subst hsz
  have hD := hD0.self (sz := s.heap.size)
  generalize hAe : va_A ws s.heap.size = A at hD ⊢
  have hA : ∀ q : Nat, s.heap.size ≤ q → A q := fun q h => by rw [← hAe]; exact Or.inr h
  have hw : tW (dC, dI) tys κ B A s ws s.heap [] := ⟨hK, hP, hD, va_S.rf, hT⟩
  have hM : Sm [] [] κ ws ws := Sm.rf
  clear hP hK hD hD0 hts0
  have l_a1 := i32_lo a1
  have h_a1 := i32_hi a1
  have hl := lv_entry ([.ref a0, .int a1]) (n := 2) (Nat.le_of_ble_eq_true rfl)
  rw [lg_entry_eq]
  generalize (lg_sl ([.ref a0, .int a1]) ++ List.replicate (2 - (lg_sl ([.ref a0, .int a1])).length) Slot.unset).toArray = ls at hl ⊢
  have hl : lv_has ls 2 [(0, .ref a0), (1, .int a1)] := hl
  refine t_start (fun QQ hQ => ?_)
  refine lv_iload_n hx hb dX11_isFarm_0 rfl (lv_at hl 1 rfl) ?_
  refine lv_if_lt (tgt := 22) hx hb dX11_isFarm_1 (by decide) (fun c_1 => ?_) (fun c_1 => ?_)
  · simp only [fa_lt, fa_le, fa_eq, li_0] at c_1
    refine lv_iconst (v := 0) hx hb dX11_isFarm_22 (by decide) ?_
    rw [hQ]
    refine W.widen (k := 0) (n := 0) (Nat.le_refl _) (Nat.le_refl _) ?_
    exact W.zret (v := 0) hx hb hr rfl (fun t ht hW => ⟨⟨0, ws, rfl, ⟨(by decide), (by decide), hw.2.2.2.2, hM, (by have := li_0; omega)⟩, by rw [ht]; exact hw.2.1, va_K.moved hW.alike hw.1, hw.2.2.1⟩, hw.2.2.2.1.F ht⟩) hw.2.2.2.1.2.2 dX11_isFarm_23
  · simp only [fa_lt, fa_le, fa_eq, li_0] at c_1
    refine lv_iload_n hx hb dX11_isFarm_4 rfl (lv_at hl 1 rfl) ?_
    refine lv_aload_n hx hb dX11_isFarm_5 rfl (lv_at hl 0 rfl) ?_
    refine t_getr (k1 := 10) (ci := 11) (C := RX11) (T := TX11) (N := 12) hx hb hts iX11 hown hw k_a0 rfl rfl rfl 5 (by decide) (hts _ tw_428) (fun _ h9 => h9) dX11_isFarm_6 rfl (fun v6 k_v6 f_a0_X11_5 => ?_)
    refine t_getr (k1 := 0) (ci := 10) (C := RX10) (T := TX10) (N := 8) hx hb hts iX10 hown hw k_v6 rfl rfl rfl 0 (by decide) (hts _ tw_282) (fun _ h9 => h9) dX11_isFarm_9 rfl (fun v9 k_v9 f_v6_X10_0 => ?_)
    refine t_geti (ci := 0) (C := RX0) (T := TX0) (N := 16) hx hb hts iX0 hown hw k_v9 rfl rfl rfl 5 (by decide) (hts _ tw_89) (fun _ h9 => h9) dX11_isFarm_12 rfl (fun v12 l_v12 h_v12 f_v9_X0_5 => ?_)
    have l_v12 : 0 ≤ v12.toInt := l_v12
    have h_v12 : v12.toInt ≤ 6 := h_v12
    refine lv_icmp_ge (tgt := 22) hx hb dX11_isFarm_15 (by decide) (fun c_15 => ?_) (fun c_15 => ?_)
    · simp only [fa_lt, fa_le, fa_eq] at c_15
      refine lv_iconst (v := 0) hx hb dX11_isFarm_22 (by decide) ?_
      rw [hQ]
      refine W.widen (k := 0) (n := 0) (Nat.le_refl _) (Nat.le_refl _) ?_
      exact W.zret (v := 0) hx hb hr rfl (fun t ht hW => ⟨⟨0, ws, rfl, ⟨(by decide), (by decide), hw.2.2.2.2, hM, (by have := li_0; omega)⟩, by rw [ht]; exact hw.2.1, va_K.moved hW.alike hw.1, hw.2.2.1⟩, hw.2.2.2.1.F ht⟩) hw.2.2.2.1.2.2 dX11_isFarm_23
    · simp only [fa_lt, fa_le, fa_eq] at c_15
      refine lv_iconst (v := 1) hx hb dX11_isFarm_18 (by decide) ?_
      refine lv_goto (tgt := 23) hx hb dX11_isFarm_19 (by decide) ?_
      rw [hQ]
      refine W.widen (k := 0) (n := 0) (Nat.le_refl _) (Nat.le_refl _) ?_
      exact W.zret (v := 1) hx hb hr rfl (fun t ht hW => ⟨⟨1, ws, rfl, ⟨(by decide), (by decide), hw.2.2.2.2, hM, (by have := li_1; omega)⟩, by rw [ht]; exact hw.2.1, va_K.moved hW.alike hw.1, hw.2.2.1⟩, hw.2.2.2.1.F ht⟩) hw.2.2.2.1.2.2 dX11_isFarm_23
set_option maxHeartbeats 4000000 in
set_option maxRecDepth 100000 in
theorem t_X11_canBeAskedAhead (l : Launch) (dC : Nat → ClassId) (dI : Nat → Nat → Nat) (tys : List (ClassId × FieldType)) (κ : tK) (B : Nat) (ws : va_W) (hT : Ty κ tys B ws) (a0 : Nat) (k_a0 : κ a0 = some 11) (a1 : Int32) (a2 : Int32) (sz : Nat) : Met l yX11_canBeAskedAhead (ws_u yX11_canBeAskedAhead cX11_canBeAskedAhead 3 (some .boolean)) ({ frames := 1, cells := 0, slots := 0, locals := 21 }) (va_Pc [.ref a0, .int a1, .int a2] (cPre (dC, dI) tys ws sz)) (va_Qi (fun (r : Int32) (w : va_W) => 0 ≤ r.toInt ∧ r.toInt ≤ 1 ∧ Ty κ tys B w ∧ Sm [] [] κ ws w ∧ (r.toInt = 0 ∨ 0 ≤ a2.toInt ∧ a2.toInt ≤ 2) ∧ (r.toInt = 0 ∨ a2.toInt = 0 ∨ (a2.toInt = 1 ∧ 0 ≤ a1.toInt ∧ a1.toInt ≤ 5) ∨ (a2.toInt = 2 ∧ 0 ≤ a1.toInt ∧ a1.toInt ≤ 5))) (fun w t => cPost (dC, dI) tys w (va_A ws sz) t) (va_A ws sz)) 0 0 (va_A ws sz) := by
  refine Met.ofW (cc := cX11_canBeAskedAhead) (maxL := 3) (ret := (some .boolean)) (by decide) rfl ?_
  intro p e s m args below meth c s₁ B0 hml hv
  obtain ⟨rfl, hsz, hP, hK, hD0, hE⟩ := hv
  have hx := B0.exec
  have hb := B0.bytes
  have hr := B0.returns
  have hts0 := atoms_spec (ws := ws_u yX11_canBeAskedAhead cX11_canBeAskedAhead 3 (some .boolean)) B0.pre
  have hts : ∀ w ∈ gT, w.before _ s = true := fun w h => hts0 w (List.mem_cons_of_mem _ h)
  have hown : s.vm.findClass RX11 = some m.cls := findClass_of_methodNamed B0.named
  have hlocks := B0.notSynchronized
  subst hsz
  have hD := hD0.self (sz := s.heap.size)
  generalize hAe : va_A ws s.heap.size = A at hD ⊢
  have hA : ∀ q : Nat, s.heap.size ≤ q → A q := fun q h => by rw [← hAe]; exact Or.inr h
  have hw : tW (dC, dI) tys κ B A s ws s.heap [] := ⟨hK, hP, hD, va_S.rf, hT⟩
  have hM : Sm [] [] κ ws ws := Sm.rf
  clear hP hK hD hD0 hts0
  have l_a1 := i32_lo a1
  have h_a1 := i32_hi a1
  have l_a2 := i32_lo a2
  have h_a2 := i32_hi a2
  have hl := lv_entry ([.ref a0, .int a1, .int a2]) (n := 3) (Nat.le_of_ble_eq_true rfl)
  rw [lg_entry_eq]
  generalize (lg_sl ([.ref a0, .int a1, .int a2]) ++ List.replicate (3 - (lg_sl ([.ref a0, .int a1, .int a2])).length) Slot.unset).toArray = ls at hl ⊢
  have hl : lv_has ls 3 [(0, .ref a0), (1, .int a1), (2, .int a2)] := hl
  refine t_start (fun QQ hQ => ?_)
  refine lv_iload_n hx hb dX11_canBeAskedAhead_0 rfl (lv_at hl 2 rfl) ?_
  refine lv_if_eq (tgt := 30) hx hb dX11_canBeAskedAhead_1 (by decide) (fun c_1 => ?_) (fun c_1 => ?_)
  · simp only [fa_lt, fa_le, fa_eq, li_0] at c_1
    refine lv_iconst (v := 1) hx hb dX11_canBeAskedAhead_30 (by decide) ?_
    refine lv_goto (tgt := 35) hx hb dX11_canBeAskedAhead_31 (by decide) ?_
    rw [hQ]
    refine W.widen (k := 0) (n := 0) (Nat.le_refl _) (Nat.le_refl _) ?_
    exact W.zret (v := 1) hx hb hr rfl (fun t ht hW => ⟨⟨1, ws, rfl, ⟨(by decide), (by decide), hw.2.2.2.2, hM, (by have := li_1; omega), (by have := li_1; omega)⟩, by rw [ht]; exact hw.2.1, va_K.moved hW.alike hw.1, hw.2.2.1⟩, hw.2.2.2.1.F ht⟩) hw.2.2.2.1.2.2 dX11_canBeAskedAhead_35
  · simp only [fa_lt, fa_le, fa_eq, li_0] at c_1
    refine lv_iload_n hx hb dX11_canBeAskedAhead_4 rfl (lv_at hl 2 rfl) ?_
    refine lv_iconst (v := 1) hx hb dX11_canBeAskedAhead_5 (by decide) ?_
    have J17 : ∀ (H : Heap) (locs : List Loc) (ls : Array Slot) (w17 : va_W), tW (dC, dI) tys κ B A s w17 H locs → Sm [] [] κ ws w17 → lv_has ls 3 [(0, .ref a0), (1, .int a1), (2, .int a2)] → W p l e (headSpec (ws_u yX11_canBeAskedAhead cX11_canBeAskedAhead 3 (some .boolean)) ({ frames := 1, cells := 0, slots := 0, locals := 21 })).room s m ([.ref a0, .int a1, .int a2] : List Value).toArray below meth c H locs 0 0 QQ (F0 m 17 ls []) := by
      intro H locs ls w17 hw hM hl
      refine lv_iload_n hx hb dX11_canBeAskedAhead_17 rfl (lv_at hl 2 rfl) ?_
      refine lv_iconst (v := 2) hx hb dX11_canBeAskedAhead_18 (by decide) ?_
      refine lv_icmp_ne (tgt := 34) hx hb dX11_canBeAskedAhead_19 (by decide) (fun c_19 => ?_) (fun c_19 => ?_)
      · simp only [fa_lt, fa_le, fa_eq, li_2] at c_19
        refine lv_iconst (v := 0) hx hb dX11_canBeAskedAhead_34 (by decide) ?_
        rw [hQ]
        refine W.widen (k := 0) (n := 0) (Nat.le_refl _) (Nat.le_refl _) ?_
        exact W.zret (v := 0) hx hb hr rfl (fun t ht hW => ⟨⟨0, w17, rfl, ⟨(by decide), (by decide), hw.2.2.2.2, hM, (by have := li_0; omega), (by have := li_0; omega)⟩, by rw [ht]; exact hw.2.1, va_K.moved hW.alike hw.1, hw.2.2.1⟩, hw.2.2.2.1.F ht⟩) hw.2.2.2.1.2.2 dX11_canBeAskedAhead_35
      · simp only [fa_lt, fa_le, fa_eq, li_2] at c_19
        refine lv_aload_n hx hb dX11_canBeAskedAhead_22 rfl (lv_at hl 0 rfl) ?_
        refine lv_iload_n hx hb dX11_canBeAskedAhead_23 rfl (lv_at hl 1 rfl) ?_
        refine t_calli (va_runV (As := [.int a1]) (rest := []) ⟨hx, hb, hml, hown, hts⟩ (t_X11_isFarm l dC dI tys κ B w17 hw.2.2.2.2 a0 k_a0 a1 H.size) (cwV 1 hts (gUV tw_730 tw_732 ts_1_1 tw_1 tw_733) rfl rfl rfl (by decide +kernel) ⟨(Nat.le_of_ble_eq_true rfl), (Nat.le_of_ble_eq_true rfl)⟩) ⟨cPre.blind, t_recv hw (ci := 11) k_a0 rfl rfl, cPre.use hw.2.1 hw.1 hw.2.2.1 hE⟩ rfl rfl hl.1 rfl (lv_room (Nat.le_of_ble_eq_true rfl)) dX11_canBeAskedAhead_24 ⟨(Nat.le_of_ble_eq_true rfl), (Nat.le_of_ble_eq_true rfl)⟩) hw hA (fun _ _ h => h.2.2.1) (fun v24 w_1 H locs hp hw => ?_)
        obtain ⟨l_v24, h_v24, _, hm, x_v24_0⟩ := hp
        have hM := hM.trans hm (by decide) (by decide)
        refine lv_if_eq (tgt := 34) hx hb dX11_canBeAskedAhead_27 (by decide) (fun c_27 => ?_) (fun c_27 => ?_)
        · simp only [fa_lt, fa_le, fa_eq, li_0] at c_27
          refine lv_iconst (v := 0) hx hb dX11_canBeAskedAhead_34 (by decide) ?_
          rw [hQ]
          refine W.widen (k := 0) (n := 0) (Nat.le_refl _) (Nat.le_refl _) ?_
          exact W.zret (v := 0) hx hb hr rfl (fun t ht hW => ⟨⟨0, w_1, rfl, ⟨(by decide), (by decide), hw.2.2.2.2, hM, (by have := li_0; omega), (by have := li_0; omega)⟩, by rw [ht]; exact hw.2.1, va_K.moved hW.alike hw.1, hw.2.2.1⟩, hw.2.2.2.1.F ht⟩) hw.2.2.2.1.2.2 dX11_canBeAskedAhead_35
        · simp only [fa_lt, fa_le, fa_eq, li_0] at c_27
          refine lv_iconst (v := 1) hx hb dX11_canBeAskedAhead_30 (by decide) ?_
          refine lv_goto (tgt := 35) hx hb dX11_canBeAskedAhead_31 (by decide) ?_
          rw [hQ]
          refine W.widen (k := 0) (n := 0) (Nat.le_refl _) (Nat.le_refl _) ?_
          exact W.zret (v := 1) hx hb hr rfl (fun t ht hW => ⟨⟨1, w_1, rfl, ⟨(by decide), (by decide), hw.2.2.2.2, hM, (by have := li_1; omega), (by have := li_1; omega)⟩, by rw [ht]; exact hw.2.1, va_K.moved hW.alike hw.1, hw.2.2.1⟩, hw.2.2.2.1.F ht⟩) hw.2.2.2.1.2.2 dX11_canBeAskedAhead_35
    refine lv_icmp_ne (tgt := 17) hx hb dX11_canBeAskedAhead_6 (by decide) (fun c_6 => ?_) (fun c_6 => ?_)
    · simp only [fa_lt, fa_le, fa_eq, li_1] at c_6
      exact J17 _ _ _ ws hw hM (lv_sub hl [0, 1, 2] rfl)
    · simp only [fa_lt, fa_le, fa_eq, li_1] at c_6
      refine lv_aload_n hx hb dX11_canBeAskedAhead_9 rfl (lv_at hl 0 rfl) ?_
      refine lv_iload_n hx hb dX11_canBeAskedAhead_10 rfl (lv_at hl 1 rfl) ?_
      refine t_calli (va_runV (As := [.int a1]) (rest := []) ⟨hx, hb, hml, hown, hts⟩ (t_X11_isBoy l dC dI tys κ B ws hw.2.2.2.2 a0 k_a0 a1 s.heap.size) (cwV 1 hts (gUV tw_710 tw_712 ts_0_15 tw_1 tw_713) rfl rfl rfl (by decide +kernel) ⟨(Nat.le_of_ble_eq_true rfl), (Nat.le_of_ble_eq_true rfl)⟩) ⟨cPre.blind, t_recv hw (ci := 11) k_a0 rfl rfl, cPre.use hw.2.1 hw.1 hw.2.2.1 hE⟩ rfl rfl hl.1 rfl (lv_room (Nat.le_of_ble_eq_true rfl)) dX11_canBeAskedAhead_11 ⟨(Nat.le_of_ble_eq_true rfl), (Nat.le_of_ble_eq_true rfl)⟩) hw hA (fun _ _ h => h.2.2.1) (fun v11 w_2 H locs hp hw => ?_)
      obtain ⟨l_v11, h_v11, _, hm, x_v11_0⟩ := hp
      have hM := hM.trans hm (by decide) (by decide)
      refine lv_if_ne (tgt := 30) hx hb dX11_canBeAskedAhead_14 (by decide) (fun c_14 => ?_) (fun c_14 => ?_)
      · simp only [fa_lt, fa_le, fa_eq, li_0] at c_14
        refine lv_iconst (v := 1) hx hb dX11_canBeAskedAhead_30 (by decide) ?_
        refine lv_goto (tgt := 35) hx hb dX11_canBeAskedAhead_31 (by decide) ?_
        rw [hQ]
        refine W.widen (k := 0) (n := 0) (Nat.le_refl _) (Nat.le_refl _) ?_
        exact W.zret (v := 1) hx hb hr rfl (fun t ht hW => ⟨⟨1, w_2, rfl, ⟨(by decide), (by decide), hw.2.2.2.2, hM, (by have := li_1; omega), (by have := li_1; omega)⟩, by rw [ht]; exact hw.2.1, va_K.moved hW.alike hw.1, hw.2.2.1⟩, hw.2.2.2.1.F ht⟩) hw.2.2.2.1.2.2 dX11_canBeAskedAhead_35
      · simp only [fa_lt, fa_le, fa_eq, li_0] at c_14
        exact J17 _ _ _ w_2 hw hM (lv_sub hl [0, 1, 2] rfl)
set_option maxHeartbeats 4000000 in
set_option maxRecDepth 100000 in
theorem t_X11_ruleInForce (l : Launch) (dC : Nat → ClassId) (dI : Nat → Nat → Nat) (tys : List (ClassId × FieldType)) (κ : tK) (B : Nat) (ws : va_W) (hT : Ty κ tys B ws) (a0 : Nat) (k_a0 : κ a0 = some 11) (sz : Nat) : Met l yX11_ruleInForce (ws_u yX11_ruleInForce cX11_ruleInForce 1 (some (.object "BoyBishop$Rule"))) ({ frames := 0, cells := 0, slots := 0, locals := 0 }) (va_Pc [.ref a0] (cPre (dC, dI) tys ws sz)) (va_Qq (fun (r : Option Nat) (w : va_W) => (∀ q : Nat, r = some q → κ q = some 6) ∧ Ty κ tys B w ∧ Sm [] [] κ ws w) (fun w t => cPost (dC, dI) tys w (va_A ws sz) t) (va_A ws sz)) 0 0 (va_A ws sz) := by
  refine Met.ofW (cc := cX11_ruleInForce) (maxL := 1) (ret := (some (.object "BoyBishop$Rule"))) (by decide) rfl ?_
  intro p e s m args below meth c s₁ B0 hml hv
  obtain ⟨rfl, hsz, hP, hK, hD0, hE⟩ := hv
  have hx := B0.exec
  have hb := B0.bytes
  have hr := B0.returns
  have hts0 := atoms_spec (ws := ws_u yX11_ruleInForce cX11_ruleInForce 1 (some (.object "BoyBishop$Rule"))) B0.pre
  have hts : ∀ w ∈ gT, w.before _ s = true := fun w h => hts0 w (List.mem_cons_of_mem _ h)
  have hown : s.vm.findClass RX11 = some m.cls := findClass_of_methodNamed B0.named
  have hlocks := B0.notSynchronized
  subst hsz
  have hD := hD0.self (sz := s.heap.size)
  generalize hAe : va_A ws s.heap.size = A at hD ⊢
  have hA : ∀ q : Nat, s.heap.size ≤ q → A q := fun q h => by rw [← hAe]; exact Or.inr h
  have hw : tW (dC, dI) tys κ B A s ws s.heap [] := ⟨hK, hP, hD, va_S.rf, hT⟩
  have hM : Sm [] [] κ ws ws := Sm.rf
  clear hP hK hD hD0 hts0
  have hl := lv_entry ([.ref a0]) (n := 1) (Nat.le_of_ble_eq_true rfl)
  rw [lg_entry_eq]
  generalize (lg_sl ([.ref a0]) ++ List.replicate (1 - (lg_sl ([.ref a0])).length) Slot.unset).toArray = ls at hl ⊢
  have hl : lv_has ls 1 [(0, .ref a0)] := hl
  refine t_start (fun QQ hQ => ?_)
  refine lv_aload_n hx hb dX11_ruleInForce_0 rfl (lv_at hl 0 rfl) ?_
  refine t_getr (k1 := 10) (ci := 11) (C := RX11) (T := TX11) (N := 12) hx hb hts iX11 hown hw k_a0 rfl rfl rfl 5 (by decide) (hts _ tw_428) (fun _ h9 => h9) dX11_ruleInForce_1 rfl (fun v1 k_v1 f_a0_X11_5 => ?_)
  refine t_geti (ci := 10) (C := RX10) (T := TX10) (N := 8) hx hb hts iX10 hown hw k_v1 rfl rfl rfl 2 (by decide) (hts _ tw_287) (fun _ h9 => h9) dX11_ruleInForce_4 rfl (fun v4 l_v4 h_v4 f_v1_X10_2 => ?_)
  have l_v4 : (-2147483648) ≤ v4.toInt := l_v4
  have h_v4 : v4.toInt ≤ 2147483647 := h_v4
  have J39 : ∀ (H : Heap) (locs : List Loc) (ls : Array Slot) (w39 : va_W), tW (dC, dI) tys κ B A s w39 H locs → Sm [] [] κ ws w39 → fld w39 a0 11 5 (.ref v1) → fld w39 v1 10 2 (.int v4) → lv_has ls 1 [(0, .ref a0)] → W p l e (headSpec (ws_u yX11_ruleInForce cX11_ruleInForce 1 (some (.object "BoyBishop$Rule"))) ({ frames := 0, cells := 0, slots := 0, locals := 0 })).room s m ([.ref a0] : List Value).toArray below meth c H locs 0 0 QQ (F0 m 39 ls []) := by
    intro H locs ls w39 hw hM f_a0_X11_5 f_v1_X10_2 hl
    refine lv_null hx hb dX11_ruleInForce_39 ?_
    rw [hQ]
    refine W.widen (k := 0) (n := 0) (Nat.le_refl _) (Nat.le_refl _) ?_
    exact W.aret (v := .null) hx hb hr (Or.inl ⟨_, rfl⟩) (Or.inl rfl) (fun t ht hW => ⟨⟨none, w39, rfl, ⟨(fun _ h => by cases h), hw.2.2.2.2, hM⟩, by rw [ht]; exact hw.2.1, va_K.moved hW.alike hw.1, hw.2.2.1⟩, hw.2.2.2.1.F ht⟩) hw.2.2.2.1.2.2 dX11_ruleInForce_40
  refine lv_if_lt (tgt := 39) hx hb dX11_ruleInForce_7 (by decide) (fun c_7 => ?_) (fun c_7 => ?_)
  · simp only [fa_lt, fa_le, fa_eq, li_0] at c_7
    exact J39 _ _ _ ws hw hM f_a0_X11_5 f_v1_X10_2 (lv_sub hl [0] rfl)
  · simp only [fa_lt, fa_le, fa_eq, li_0] at c_7
    refine lv_aload_n hx hb dX11_ruleInForce_10 rfl (lv_at hl 0 rfl) ?_
    refine t_getk (ci := 11) (C := RX11) (T := TX11) (N := 12) hx hb hts iX11 hown hw rfl 5 (by decide) (hts _ tw_428) (fun _ h9 => h9) dX11_ruleInForce_11 f_a0_X11_5 ?_
    refine t_getk (ci := 10) (C := RX10) (T := TX10) (N := 8) hx hb hts iX10 hown hw rfl 2 (by decide) (hts _ tw_287) (fun _ h9 => h9) dX11_ruleInForce_14 f_v1_X10_2 ?_
    refine lv_aload_n hx hb dX11_ruleInForce_17 rfl (lv_at hl 0 rfl) ?_
    refine t_geti (ci := 11) (C := RX11) (T := TX11) (N := 12) hx hb hts iX11 hown hw k_a0 rfl rfl rfl 4 (by decide) (hts _ tw_427) (fun _ h9 => h9) dX11_ruleInForce_18 rfl (fun v18 l_v18 h_v18 f_a0_X11_4 => ?_)
    have l_v18 : 0 ≤ v18.toInt := l_v18
    have h_v18 : v18.toInt ≤ 6 := h_v18
    refine lv_icmp_ge (tgt := 39) hx hb dX11_ruleInForce_21 (by decide) (fun c_21 => ?_) (fun c_21 => ?_)
    · simp only [fa_lt, fa_le, fa_eq] at c_21
      exact J39 _ _ _ ws hw hM f_a0_X11_5 f_v1_X10_2 (lv_sub hl [0] rfl)
    · simp only [fa_lt, fa_le, fa_eq] at c_21
      refine lv_aload_n hx hb dX11_ruleInForce_24 rfl (lv_at hl 0 rfl) ?_
      refine t_getr (k1 := 52) (ci := 11) (C := RX11) (T := TX11) (N := 12) hx hb hts iX11 hown hw k_a0 rfl rfl rfl 3 (by decide) (hts _ tw_426) (fun _ h9 => h9) dX11_ruleInForce_25 rfl (fun v25 k_v25 f_a0_X11_3 => ?_)
      refine lv_aload_n hx hb dX11_ruleInForce_28 rfl (lv_at hl 0 rfl) ?_
      refine t_getk (ci := 11) (C := RX11) (T := TX11) (N := 12) hx hb hts iX11 hown hw rfl 5 (by decide) (hts _ tw_428) (fun _ h9 => h9) dX11_ruleInForce_29 f_a0_X11_5 ?_
      refine t_getk (ci := 10) (C := RX10) (T := TX10) (N := 8) hx hb hts iX10 hown hw rfl 2 (by decide) (hts _ tw_287) (fun _ h9 => h9) dX11_ruleInForce_32 f_v1_X10_2 ?_
      refine t_aald (C := RX6) hx hb hw k_v25 rfl rfl (by omega) (show v4.toInt < 6 by omega) dX11_ruleInForce_35 (fun v35 k_v35 => ?_)
      have k_v35 : κ v35 = some 6 := k_v35
      refine lv_goto (tgt := 40) hx hb dX11_ruleInForce_36 (by decide) ?_
      rw [hQ]
      refine W.widen (k := 0) (n := 0) (Nat.le_refl _) (Nat.le_refl _) ?_
      exact W.aret (v := .ref v35) hx hb hr (Or.inl ⟨_, rfl⟩) (Or.inr ⟨_, rfl⟩) (fun t ht hW => ⟨⟨(some v35), ws, rfl, ⟨(fun _ h => by cases h; exact k_v35), hw.2.2.2.2, hM⟩, by rw [ht]; exact hw.2.1, va_K.moved hW.alike hw.1, hw.2.2.1⟩, hw.2.2.2.1.F ht⟩) hw.2.2.2.1.2.2 dX11_ruleInForce_40
set_option maxHeartbeats 4000000 in
set_option maxRecDepth 100000 in
theorem t_X5_isIn (l : Launch) (dC : Nat → ClassId) (dI : Nat → Nat → Nat) (tys : List (ClassId × FieldType)) (κ : tK) (B : Nat) (ws : va_W) (hT : Ty κ tys B ws) (a0 : Int32) (a1 : Int32) (l_a1 : 0 ≤ a1.toInt) (h_a1 : a1.toInt ≤ 5) (sz : Nat) : Met l yX5_isIn (ws_u yX5_isIn cX5_isIn 2 (some .boolean)) ({ frames := 0, cells := 0, slots := 0, locals := 0 }) (va_Pc [.int a0, .int a1] (cPre (dC, dI) tys ws sz)) (va_Qi (fun (r : Int32) (w : va_W) => 0 ≤ r.toInt ∧ r.toInt ≤ 1 ∧ Ty κ tys B w ∧ Sm [] [] κ ws w) (fun w t => cPost (dC, dI) tys w (va_A ws sz) t) (va_A ws sz)) 0 0 (va_A ws sz) := by
  refine Met.ofW (cc := cX5_isIn) (maxL := 2) (ret := (some .boolean)) (by decide) rfl ?_
  intro p e s m args below meth c s₁ B0 hml hv
  obtain ⟨rfl, hsz, hP, hK, hD0, hE⟩ := hv
  have hx := B0.exec
  have hb := B0.bytes
  have hr := B0.returns
  have hts0 := atoms_spec (ws := ws_u yX5_isIn cX5_isIn 2 (some .boolean)) B0.pre
  have hts : ∀ w ∈ gT, w.before _ s = true := fun w h => hts0 w (List.mem_cons_of_mem _ h)
  have hown : s.vm.findClass RX5 = some m.cls := findClass_of_methodNamed B0.named
  have hlocks := B0.notSynchronized
  subst hsz
  have hD := hD0.self (sz := s.heap.size)
  generalize hAe : va_A ws s.heap.size = A at hD ⊢
  have hA : ∀ q : Nat, s.heap.size ≤ q → A q := fun q h => by rw [← hAe]; exact Or.inr h
  have hw : tW (dC, dI) tys κ B A s ws s.heap [] := ⟨hK, hP, hD, va_S.rf, hT⟩
  have hM : Sm [] [] κ ws ws := Sm.rf
  clear hP hK hD hD0 hts0
  have l_a0 := i32_lo a0
  have h_a0 := i32_hi a0
  have hl := lv_entry ([.int a0, .int a1]) (n := 2) (Nat.le_of_ble_eq_true rfl)
  rw [lg_entry_eq]
  generalize (lg_sl ([.int a0, .int a1]) ++ List.replicate (2 - (lg_sl ([.int a0, .int a1])).length) Slot.unset).toArray = ls at hl ⊢
  have hl : lv_has ls 2 [(0, .int a0), (1, .int a1)] := hl
  refine t_start (fun QQ hQ => ?_)
  refine lv_iload_n hx hb dX5_isIn_0 rfl (lv_at hl 0 rfl) ?_
  refine lv_iload_n hx hb dX5_isIn_1 rfl (lv_at hl 1 rfl) ?_
  refine lv_ishr hx hb dX5_isIn_2 ?_
  refine lv_topi (fun v2 e_v2 => ?_)
  have l_v2 := i32_lo v2
  have h_v2 := i32_hi v2
  refine lv_iconst (v := 1) hx hb dX5_isIn_3 (by decide) ?_
  refine lv_iand hx hb dX5_isIn_4 ?_
  refine lv_topi (fun v4 e_v4 => ?_)
  have ⟨l_v4, h_v4⟩ : 0 ≤ v4.toInt ∧ v4.toInt ≤ 1 := and_r e_v4 li_1 (by decide)
  refine lv_iconst (v := 1) hx hb dX5_isIn_5 (by decide) ?_
  refine lv_icmp_ne (tgt := 13) hx hb dX5_isIn_6 (by decide) (fun c_6 => ?_) (fun c_6 => ?_)
  · simp only [fa_lt, fa_le, fa_eq, li_1] at c_6
    refine lv_iconst (v := 0) hx hb dX5_isIn_13 (by decide) ?_
    rw [hQ]
    refine W.widen (k := 0) (n := 0) (Nat.le_refl _) (Nat.le_refl _) ?_
    exact W.zret (v := 0) hx hb hr rfl (fun t ht hW => ⟨⟨0, ws, rfl, ⟨(by decide), (by decide), hw.2.2.2.2, hM⟩, by rw [ht]; exact hw.2.1, va_K.moved hW.alike hw.1, hw.2.2.1⟩, hw.2.2.2.1.F ht⟩) hw.2.2.2.1.2.2 dX5_isIn_14
  · simp only [fa_lt, fa_le, fa_eq, li_1] at c_6
    refine lv_iconst (v := 1) hx hb dX5_isIn_9 (by decide) ?_
    refine lv_goto (tgt := 14) hx hb dX5_isIn_10 (by decide) ?_
    rw [hQ]
    refine W.widen (k := 0) (n := 0) (Nat.le_refl _) (Nat.le_refl _) ?_
    exact W.zret (v := 1) hx hb hr rfl (fun t ht hW => ⟨⟨1, ws, rfl, ⟨(by decide), (by decide), hw.2.2.2.2, hM⟩, by rw [ht]; exact hw.2.1, va_K.moved hW.alike hw.1, hw.2.2.1⟩, hw.2.2.2.1.F ht⟩) hw.2.2.2.1.2.2 dX5_isIn_14
set_option maxHeartbeats 4000000 in
set_option maxRecDepth 100000 in
theorem t_X5_chosenWith (l : Launch) (dC : Nat → ClassId) (dI : Nat → Nat → Nat) (tys : List (ClassId × FieldType)) (κ : tK) (B : Nat) (ws : va_W) (hT : Ty κ tys B ws) (a0 : Nat) (k_a0 : κ a0 = some 5) (a1 : Int32) (l_a1 : (-1) ≤ a1.toInt) (h_a1 : a1.toInt ≤ 5) (a2 : Int32) (l_a2 : 0 ≤ a2.toInt) (h_a2 : a2.toInt ≤ 63) (sz : Nat) : Met l yX5_chosenWith (ws_u yX5_chosenWith cX5_chosenWith 5 (some .int)) ({ frames := 1, cells := 0, slots := 0, locals := 23 }) (va_Pc [.ref a0, .int a1, .int a2] (cPre (dC, dI) tys ws sz)) (va_Qi (fun (r : Int32) (w : va_W) => (-1) ≤ r.toInt ∧ r.toInt ≤ 5 ∧ Ty κ tys B w ∧ Sm [] [35] κ ws w) (fun w t => cPost (dC, dI) tys w (va_A ws sz) t) (va_A ws sz)) 0 0 (va_A ws sz) := by
  refine Met.ofW (cc := cX5_chosenWith) (maxL := 5) (ret := (some .int)) (by decide) rfl ?_
  intro p e s m args below meth c s₁ B0 hml hv
  obtain ⟨rfl, hsz, hP, hK, hD0, hE⟩ := hv
  have hx := B0.exec
  have hb := B0.bytes
  have hr := B0.returns
  have hts0 := atoms_spec (ws := ws_u yX5_chosenWith cX5_chosenWith 5 (some .int)) B0.pre
  have hts : ∀ w ∈ gT, w.before _ s = true := fun w h => hts0 w (List.mem_cons_of_mem _ h)
  have hown : s.vm.findClass RX5 = some m.cls := findClass_of_methodNamed B0.named
  have hlocks := B0.notSynchronized
  subst hsz
  have hD := hD0.self (sz := s.heap.size)
  generalize hAe : va_A ws s.heap.size = A at hD ⊢
  have hA : ∀ q : Nat, s.heap.size ≤ q → A q := fun q h => by rw [← hAe]; exact Or.inr h
  have hw : tW (dC, dI) tys κ B A s ws s.heap [] := ⟨hK, hP, hD, va_S.rf, hT⟩
  have hM : Sm [] [35] κ ws ws := Sm.rf
  clear hP hK hD hD0 hts0
  have hl := lv_entry ([.ref a0, .int a1, .int a2]) (n := 5) (Nat.le_of_ble_eq_true rfl)
  rw [lg_entry_eq]
  generalize (lg_sl ([.ref a0, .int a1, .int a2]) ++ List.replicate (5 - (lg_sl ([.ref a0, .int a1, .int a2])).length) Slot.unset).toArray = ls at hl ⊢
  have hl : lv_has ls 5 [(0, .ref a0), (1, .int a1), (2, .int a2)] := hl
  refine t_start (fun QQ hQ => ?_)
  refine lv_aload_n hx hb dX5_chosenWith_0 rfl (lv_at hl 0 rfl) ?_
  refine t_getr (k1 := 35) (ci := 5) (C := RX5) (T := TX5) (N := 8) hx hb hts iX5 hown hw k_a0 rfl rfl rfl 4 (by decide) (hts _ tw_349) (fun _ h9 => h9) dX5_chosenWith_1 rfl (fun v1 k_v1 f_a0_X5_4 => ?_)
  refine lv_iconst (v := 0) hx hb dX5_chosenWith_4 (by decide) ?_
  refine t_callv (va_runS (As := [.ref v1, .int 0]) (rest := []) ⟨hx, hb, hml, hown, hts⟩ (t_J7_fill_53178_Poll_tally l dC dI tys κ B ws hw.2.2.2.2 v1 k_v1 0 s.heap.size) (va_cwS 2 hts (gUS tw_808 tw_489 tw_14 tw_490) rfl rfl rfl (by decide +kernel) ⟨(Nat.le_of_ble_eq_true rfl), (Nat.le_of_ble_eq_true rfl)⟩) ⟨cPre.blind, cPre.use hw.2.1 hw.1 hw.2.2.1 hE⟩ rfl rfl hl.1 rfl (lv_room (Nat.le_of_ble_eq_true rfl)) dX5_chosenWith_5 ⟨(Nat.le_of_ble_eq_true rfl), (Nat.le_of_ble_eq_true rfl)⟩) hw hA (fun _ h => h.1) (fun w_1 H locs hp hw => ?_)
  obtain ⟨_, hm⟩ := hp
  have hM := hM.trans hm (by decide) (by decide)
  have f_a0_X5_4 := hm.1 _ _ _ _ f_a0_X5_4 (by decide)
  refine lv_iconst (v := 0) hx hb dX5_chosenWith_8 (by decide) ?_
  refine lv_istore_n (lv' := [(3, .int 0), (0, .ref a0), (1, .int a1), (2, .int a2)]) hx hb dX5_chosenWith_9 rfl hl (by decide) rfl (fun ls hl => ?_)
  have J10 : ∀ (n : Nat) (H : Heap) (locs : List Loc) (ls : Array Slot), (∃ (w10 : va_W) (p10_l3 : Int32), tW (dC, dI) tys κ B A s w10 H locs ∧ Sm [] [35] κ ws w10 ∧ 0 ≤ p10_l3.toInt ∧ p10_l3.toInt ≤ 6 ∧ fld w10 a0 5 4 (.ref v1) ∧ lv_has ls 5 [(0, .ref a0), (1, .int a1), (2, .int a2), (3, .int p10_l3)] ∧ (6 - p10_l3.toInt).toNat = n) → W p l e (headSpec (ws_u yX5_chosenWith cX5_chosenWith 5 (some .int)) ({ frames := 1, cells := 0, slots := 0, locals := 23 })).room s m ([.ref a0, .int a1, .int a2] : List Value).toArray below meth c H locs 0 0 QQ (F0 m 10 ls []) := by
    refine loopT _ ?_
    intro n_10 H locs ls hI ih_10
    obtain ⟨w10, p10_l3, hw, hM, l_p10_l3, h_p10_l3, f_a0_X5_4, hl, hn_10⟩ := hI
    refine lv_iload_n hx hb dX5_chosenWith_10 rfl (lv_at hl 3 rfl) ?_
    refine lv_aload_n hx hb dX5_chosenWith_11 rfl (lv_at hl 0 rfl) ?_
    refine t_geti (ci := 5) (C := RX5) (T := TX5) (N := 8) hx hb hts iX5 hown hw k_a0 rfl rfl rfl 0 (by decide) (hts _ tw_344) (fun _ h9 => h9) dX5_chosenWith_12 rfl (fun v12 l_v12 h_v12 f_a0_X5_0 => ?_)
    have l_v12 : 0 ≤ v12.toInt := l_v12
    have h_v12 : v12.toInt ≤ 6 := h_v12
    refine lv_icmp_ge (tgt := 61) hx hb dX5_chosenWith_15 (by decide) (fun c_15 => ?_) (fun c_15 => ?_)
    · simp only [fa_lt, fa_le, fa_eq] at c_15
      refine lv_iconst (v := (-1)) hx hb dX5_chosenWith_61 (by decide) ?_
      refine lv_istore_n (lv' := [(3, .int (-1)), (0, .ref a0), (1, .int a1), (2, .int a2)]) hx hb dX5_chosenWith_62 rfl hl (by decide) rfl (fun ls hl => ?_)
      refine lv_iconst (v := 0) hx hb dX5_chosenWith_63 (by decide) ?_
      refine lv_istore (lv' := [(4, .int 0), (3, .int (-1)), (0, .ref a0), (1, .int a1), (2, .int a2)]) hx hb dX5_chosenWith_64 hl (by decide) rfl (fun ls hl => ?_)
      have J66 : ∀ (n : Nat) (H : Heap) (locs : List Loc) (ls : Array Slot), (∃ (w66 : va_W) (p66_l3 : Int32) (p66_l4 : Int32), tW (dC, dI) tys κ B A s w66 H locs ∧ Sm [] [35] κ ws w66 ∧ (-1) ≤ p66_l3.toInt ∧ p66_l3.toInt ≤ 5 ∧ 0 ≤ p66_l4.toInt ∧ p66_l4.toInt ≤ 6 ∧ fld w66 a0 5 0 (.int v12) ∧ fld w66 a0 5 4 (.ref v1) ∧ lv_has ls 5 [(0, .ref a0), (1, .int a1), (2, .int a2), (3, .int p66_l3), (4, .int p66_l4)] ∧ (6 - p66_l4.toInt).toNat = n) → W p l e (headSpec (ws_u yX5_chosenWith cX5_chosenWith 5 (some .int)) ({ frames := 1, cells := 0, slots := 0, locals := 23 })).room s m ([.ref a0, .int a1, .int a2] : List Value).toArray below meth c H locs 0 0 QQ (F0 m 66 ls []) := by
        refine loopT _ ?_
        intro n_66 H locs ls hI ih_66
        obtain ⟨w66, p66_l3, p66_l4, hw, hM, l_p66_l3, h_p66_l3, l_p66_l4, h_p66_l4, f_a0_X5_0, f_a0_X5_4, hl, hn_66⟩ := hI
        refine lv_iload hx hb dX5_chosenWith_66 (lv_at hl 4 rfl) ?_
        refine lv_aload_n hx hb dX5_chosenWith_68 rfl (lv_at hl 0 rfl) ?_
        refine t_getk (ci := 5) (C := RX5) (T := TX5) (N := 8) hx hb hts iX5 hown hw rfl 0 (by decide) (hts _ tw_344) (fun _ h9 => h9) dX5_chosenWith_69 f_a0_X5_0 ?_
        refine lv_icmp_ge (tgt := 115) hx hb dX5_chosenWith_72 (by decide) (fun c_72 => ?_) (fun c_72 => ?_)
        · simp only [fa_lt, fa_le, fa_eq] at c_72
          refine lv_iload_n hx hb dX5_chosenWith_115 rfl (lv_at hl 3 rfl) ?_
          rw [hQ]
          refine W.widen (k := 0) (n := 0) (Nat.le_refl _) (Nat.le_refl _) ?_
          exact W.iret (v := p66_l3) hx hb hr (fun t ht hW => ⟨⟨p66_l3, w66, rfl, ⟨(by omega), (by omega), hw.2.2.2.2, hM⟩, by rw [ht]; exact hw.2.1, va_K.moved hW.alike hw.1, hw.2.2.1⟩, hw.2.2.2.1.F ht⟩) hw.2.2.2.1.2.2 dX5_chosenWith_116
        · simp only [fa_lt, fa_le, fa_eq] at c_72
          refine lv_aload_n hx hb dX5_chosenWith_75 rfl (lv_at hl 0 rfl) ?_
          refine t_getk (ci := 5) (C := RX5) (T := TX5) (N := 8) hx hb hts iX5 hown hw rfl 4 (by decide) (hts _ tw_349) (fun _ h9 => h9) dX5_chosenWith_76 f_a0_X5_4 ?_
          refine lv_iload hx hb dX5_chosenWith_79 (lv_at hl 4 rfl) ?_
          refine t_iald hx hb hw k_v1 rfl rfl (by omega) (show p66_l4.toInt < 6 by omega) dX5_chosenWith_81 (fun v81 r_v81 s_v81 q_v81 => ?_)
          have l_v81 := i32_lo v81
          have h_v81 := i32_hi v81
          have J109 : ∀ (H : Heap) (locs : List Loc) (ls : Array Slot) (w109 : va_W) (p109_l3 : Int32), tW (dC, dI) tys κ B A s w109 H locs → Sm [] [35] κ ws w109 → (-1) ≤ p109_l3.toInt → p109_l3.toInt ≤ 5 → fld w109 a0 5 0 (.int v12) → fld w109 a0 5 4 (.ref v1) → lv_has ls 5 [(0, .ref a0), (1, .int a1), (2, .int a2), (3, .int p109_l3), (4, .int p66_l4)] → W p l e (headSpec (ws_u yX5_chosenWith cX5_chosenWith 5 (some .int)) ({ frames := 1, cells := 0, slots := 0, locals := 23 })).room s m ([.ref a0, .int a1, .int a2] : List Value).toArray below meth c H locs 0 0 QQ (F0 m 109 ls []) := by
            intro H locs ls w109 p109_l3 hw hM l_p109_l3 h_p109_l3 f_a0_X5_0 f_a0_X5_4 hl
            obtain ⟨v109, e_v109⟩ : ∃ y : Int32, y = p66_l4 + 1 := ⟨_, rfl⟩
            refine lv_iinc (v := v109) (lv' := [(4, .int v109), (0, .ref a0), (1, .int a1), (2, .int a2), (3, .int p109_l3)]) hx hb dX5_chosenWith_109 hl (k := 4) rfl e_v109.symm (by decide) rfl (fun ls hl => ?_)
            have e_v109 : v109.toInt = p66_l4.toInt + 1 := ad_i e_v109 rfl li_1 (by omega) (by omega)
            refine lv_goto (tgt := 66) hx hb dX5_chosenWith_112 (by decide) ?_
            exact ih_66 _ _ _ _ (by omega) ⟨w109, p109_l3, v109, hw, hM, (by omega), (by omega), (by omega), (by omega), f_a0_X5_0, f_a0_X5_4, (lv_sub hl [1, 2, 3, 4, 0] rfl), rfl⟩
          refine lv_if_le (tgt := 109) hx hb dX5_chosenWith_82 (by decide) (fun c_82 => ?_) (fun c_82 => ?_)
          · simp only [fa_lt, fa_le, fa_eq, li_0] at c_82
            exact J109 _ _ _ w66 p66_l3 hw hM (by omega) (by omega) f_a0_X5_0 f_a0_X5_4 (lv_sub hl [0, 1, 2, 3, 4] rfl)
          · simp only [fa_lt, fa_le, fa_eq, li_0] at c_82
            refine lv_iload_n hx hb dX5_chosenWith_85 rfl (lv_at hl 3 rfl) ?_
            refine lv_iconst (v := (-1)) hx hb dX5_chosenWith_86 (by decide) ?_
            have J106 : ∀ (H : Heap) (locs : List Loc) (ls : Array Slot) (w106 : va_W), tW (dC, dI) tys κ B A s w106 H locs → Sm [] [35] κ ws w106 → fld w106 a0 5 0 (.int v12) → fld w106 a0 5 4 (.ref v1) → lv_has ls 5 [(0, .ref a0), (1, .int a1), (2, .int a2), (3, .int p66_l3), (4, .int p66_l4)] → W p l e (headSpec (ws_u yX5_chosenWith cX5_chosenWith 5 (some .int)) ({ frames := 1, cells := 0, slots := 0, locals := 23 })).room s m ([.ref a0, .int a1, .int a2] : List Value).toArray below meth c H locs 0 0 QQ (F0 m 106 ls []) := by
              intro H locs ls w106 hw hM f_a0_X5_0 f_a0_X5_4 hl
              refine lv_iload hx hb dX5_chosenWith_106 (lv_at hl 4 rfl) ?_
              refine lv_istore_n (lv' := [(3, .int p66_l4), (0, .ref a0), (1, .int a1), (2, .int a2), (4, .int p66_l4)]) hx hb dX5_chosenWith_108 rfl hl (by decide) rfl (fun ls hl => ?_)
              exact J109 _ _ _ w106 p66_l4 hw hM (by omega) (by omega) f_a0_X5_0 f_a0_X5_4 (lv_sub hl [1, 2, 3, 0, 4] rfl)
            refine lv_icmp_eq (tgt := 106) hx hb dX5_chosenWith_87 (by decide) (fun c_87 => ?_) (fun c_87 => ?_)
            · simp only [fa_lt, fa_le, fa_eq, li_m1] at c_87
              exact J106 _ _ _ w66 hw hM f_a0_X5_0 f_a0_X5_4 (lv_sub hl [0, 1, 2, 3, 4] rfl)
            · simp only [fa_lt, fa_le, fa_eq, li_m1] at c_87
              refine lv_aload_n hx hb dX5_chosenWith_90 rfl (lv_at hl 0 rfl) ?_
              refine t_getk (ci := 5) (C := RX5) (T := TX5) (N := 8) hx hb hts iX5 hown hw rfl 4 (by decide) (hts _ tw_349) (fun _ h9 => h9) dX5_chosenWith_91 f_a0_X5_4 ?_
              refine lv_iload hx hb dX5_chosenWith_94 (lv_at hl 4 rfl) ?_
              refine t_iald hx hb hw k_v1 rfl rfl (by omega) (show p66_l4.toInt < 6 by omega) dX5_chosenWith_96 (fun v96 r_v96 s_v96 q_v96 => ?_)
              have l_v96 := i32_lo v96
              have h_v96 := i32_hi v96
              refine lv_aload_n hx hb dX5_chosenWith_97 rfl (lv_at hl 0 rfl) ?_
              refine t_getk (ci := 5) (C := RX5) (T := TX5) (N := 8) hx hb hts iX5 hown hw rfl 4 (by decide) (hts _ tw_349) (fun _ h9 => h9) dX5_chosenWith_98 f_a0_X5_4 ?_
              refine lv_iload_n hx hb dX5_chosenWith_101 rfl (lv_at hl 3 rfl) ?_
              refine t_iald hx hb hw k_v1 rfl rfl (by omega) (show p66_l3.toInt < 6 by omega) dX5_chosenWith_102 (fun v102 r_v102 s_v102 q_v102 => ?_)
              have l_v102 := i32_lo v102
              have h_v102 := i32_hi v102
              refine lv_icmp_le (tgt := 109) hx hb dX5_chosenWith_103 (by decide) (fun c_103 => ?_) (fun c_103 => ?_)
              · simp only [fa_lt, fa_le, fa_eq] at c_103
                exact J109 _ _ _ w66 p66_l3 hw hM (by omega) (by omega) f_a0_X5_0 f_a0_X5_4 (lv_sub hl [0, 1, 2, 3, 4] rfl)
              · simp only [fa_lt, fa_le, fa_eq] at c_103
                exact J106 _ _ _ w66 hw hM f_a0_X5_0 f_a0_X5_4 (lv_sub hl [0, 1, 2, 3, 4] rfl)
      exact J66 _ _ _ _ ⟨w10, (-1), 0, hw, hM, (by decide), (by decide), (by decide), (by decide), f_a0_X5_0, f_a0_X5_4, (lv_sub hl [2, 3, 4, 1, 0] rfl), rfl⟩
    · simp only [fa_lt, fa_le, fa_eq] at c_15
      refine lv_iload_n hx hb dX5_chosenWith_18 rfl (lv_at hl 2 rfl) ?_
      refine lv_iload_n hx hb dX5_chosenWith_19 rfl (lv_at hl 3 rfl) ?_
      refine t_calli (va_runS (As := [.int a2, .int p10_l3]) (rest := []) ⟨hx, hb, hml, hown, hts⟩ (t_X5_isIn l dC dI tys κ B w10 hw.2.2.2.2 a2 p10_l3 (by omega) (by omega) H.size) (va_cwS 2 hts (gUS tw_778 tw_779 tw_10 tw_780) rfl rfl rfl (by decide +kernel) ⟨(Nat.le_of_ble_eq_true rfl), (Nat.le_of_ble_eq_true rfl)⟩) ⟨cPre.blind, cPre.use hw.2.1 hw.1 hw.2.2.1 hE⟩ rfl rfl hl.1 rfl (lv_room (Nat.le_of_ble_eq_true rfl)) dX5_chosenWith_20 ⟨(Nat.le_of_ble_eq_true rfl), (Nat.le_of_ble_eq_true rfl)⟩) hw hA (fun _ _ h => h.2.2.1) (fun v20 w_2 H locs hp hw => ?_)
      obtain ⟨l_v20, h_v20, _, hm⟩ := hp
      have hM := hM.trans hm (by decide) (by decide)
      have f_a0_X5_4 := hm.1 _ _ _ _ f_a0_X5_4 (by decide)
      have f_a0_X5_0 := hm.1 _ _ _ _ f_a0_X5_0 (by decide)
      have J36 : ∀ (H : Heap) (locs : List Loc) (ls : Array Slot) (w36 : va_W) (p36_s0 : Int32), tW (dC, dI) tys κ B A s w36 H locs → Sm [] [35] κ ws w36 → (-1) ≤ p36_s0.toInt → p36_s0.toInt ≤ 5 → fld w36 a0 5 0 (.int v12) → fld w36 a0 5 4 (.ref v1) → lv_has ls 5 [(0, .ref a0), (1, .int a1), (2, .int a2), (3, .int p10_l3)] → W p l e (headSpec (ws_u yX5_chosenWith cX5_chosenWith 5 (some .int)) ({ frames := 1, cells := 0, slots := 0, locals := 23 })).room s m ([.ref a0, .int a1, .int a2] : List Value).toArray below meth c H locs 0 0 QQ (F0 m 36 ls [.int p36_s0]) := by
        intro H locs ls w36 p36_s0 hw hM l_p36_s0 h_p36_s0 f_a0_X5_0 f_a0_X5_4 hl
        refine lv_istore (lv' := [(4, .int p36_s0), (0, .ref a0), (1, .int a1), (2, .int a2), (3, .int p10_l3)]) hx hb dX5_chosenWith_36 hl (by decide) rfl (fun ls hl => ?_)
        refine lv_iload hx hb dX5_chosenWith_38 (lv_at hl 0 rfl) ?_
        refine lv_iconst (v := (-1)) hx hb dX5_chosenWith_40 (by decide) ?_
        have J55 : ∀ (H : Heap) (locs : List Loc) (ls : Array Slot) (w55 : va_W), tW (dC, dI) tys κ B A s w55 H locs → Sm [] [35] κ ws w55 → fld w55 a0 5 0 (.int v12) → fld w55 a0 5 4 (.ref v1) → lv_has ls 5 [(0, .ref a0), (1, .int a1), (2, .int a2), (3, .int p10_l3), (4, .int p36_s0)] → W p l e (headSpec (ws_u yX5_chosenWith cX5_chosenWith 5 (some .int)) ({ frames := 1, cells := 0, slots := 0, locals := 23 })).room s m ([.ref a0, .int a1, .int a2] : List Value).toArray below meth c H locs 0 0 QQ (F0 m 55 ls []) := by
          intro H locs ls w55 hw hM f_a0_X5_0 f_a0_X5_4 hl
          obtain ⟨v55, e_v55⟩ : ∃ y : Int32, y = p10_l3 + 1 := ⟨_, rfl⟩
          refine lv_iinc (v := v55) (lv' := [(3, .int v55), (0, .ref a0), (1, .int a1), (2, .int a2), (4, .int p36_s0)]) hx hb dX5_chosenWith_55 hl (k := 3) rfl e_v55.symm (by decide) rfl (fun ls hl => ?_)
          have e_v55 : v55.toInt = p10_l3.toInt + 1 := ad_i e_v55 rfl li_1 (by omega) (by omega)
          refine lv_goto (tgt := 10) hx hb dX5_chosenWith_58 (by decide) ?_
          exact ih_10 _ _ _ _ (by omega) ⟨w55, v55, hw, hM, (by omega), (by omega), f_a0_X5_4, (lv_sub hl [1, 2, 3, 0] rfl), rfl⟩
        refine lv_icmp_eq (tgt := 55) hx hb dX5_chosenWith_41 (by decide) (fun c_41 => ?_) (fun c_41 => ?_)
        · simp only [fa_lt, fa_le, fa_eq, li_m1] at c_41
          exact J55 _ _ _ w36 hw hM f_a0_X5_0 f_a0_X5_4 (lv_sub hl [1, 2, 3, 4, 0] rfl)
        · simp only [fa_lt, fa_le, fa_eq, li_m1] at c_41
          refine lv_aload_n hx hb dX5_chosenWith_44 rfl (lv_at hl 1 rfl) ?_
          refine t_getk (ci := 5) (C := RX5) (T := TX5) (N := 8) hx hb hts iX5 hown hw rfl 4 (by decide) (hts _ tw_349) (fun _ h9 => h9) dX5_chosenWith_45 f_a0_X5_4 ?_
          refine lv_iload hx hb dX5_chosenWith_48 (lv_at hl 0 rfl) ?_
          refine lv_dup2_11 hx hb dX5_chosenWith_50 rfl rfl ?_
          refine t_iald hx hb hw k_v1 rfl rfl (by omega) (show p36_s0.toInt < 6 by omega) dX5_chosenWith_51 (fun v51 r_v51 s_v51 q_v51 => ?_)
          have l_v51 := i32_lo v51
          have h_v51 := i32_hi v51
          refine lv_iconst (v := 1) hx hb dX5_chosenWith_52 (by decide) ?_
          refine lv_iadd hx hb dX5_chosenWith_53 ?_
          refine lv_topi (fun v53 e_v53 => ?_)
          have l_v53 := i32_lo v53
          have h_v53 := i32_hi v53
          refine t_iast hx hb hw k_v1 rfl rfl (by omega) (show p36_s0.toInt < 6 by omega) (i32_lo _) (i32_hi _) dX5_chosenWith_54 (fun w_3 H locs hw u => ?_)
          have hM := hM.up3 u k_v1 (by decide)
          have f_a0_X5_0 := u.1 _ _ _ _ f_a0_X5_0
          have f_a0_X5_4 := u.1 _ _ _ _ f_a0_X5_4
          exact J55 _ _ _ w_3 hw hM f_a0_X5_0 f_a0_X5_4 (lv_sub hl [1, 2, 3, 4, 0] rfl)
      refine lv_if_eq (tgt := 30) hx hb dX5_chosenWith_23 (by decide) (fun c_23 => ?_) (fun c_23 => ?_)
      · simp only [fa_lt, fa_le, fa_eq, li_0] at c_23
        refine lv_aload_n hx hb dX5_chosenWith_30 rfl (lv_at hl 0 rfl) ?_
        refine t_getr (k1 := 34) (ci := 5) (C := RX5) (T := TX5) (N := 8) hx hb hts iX5 hown hw k_a0 rfl rfl rfl 3 (by decide) (hts _ tw_347) (fun _ h9 => h9) dX5_chosenWith_31 rfl (fun v31 k_v31 f_a0_X5_3 => ?_)
        refine lv_iload_n hx hb dX5_chosenWith_34 rfl (lv_at hl 3 rfl) ?_
        refine t_iald hx hb hw k_v31 rfl rfl (by omega) (show p10_l3.toInt < 6 by omega) dX5_chosenWith_35 (fun v35 r_v35 s_v35 q_v35 => ?_)
        have l_v35 : (-1) ≤ v35.toInt := r_v35
        have h_v35 : v35.toInt ≤ 5 := s_v35
        exact J36 _ _ _ w_2 v35 hw hM (by omega) (by omega) f_a0_X5_0 f_a0_X5_4 (lv_sub hl [0, 1, 2, 3] rfl)
      · simp only [fa_lt, fa_le, fa_eq, li_0] at c_23
        refine lv_iload_n hx hb dX5_chosenWith_26 rfl (lv_at hl 1 rfl) ?_
        refine lv_goto (tgt := 36) hx hb dX5_chosenWith_27 (by decide) ?_
        exact J36 _ _ _ w_2 a1 hw hM (by omega) (by omega) f_a0_X5_0 f_a0_X5_4 (lv_sub hl [0, 1, 2, 3] rfl)
  exact J10 _ _ _ _ ⟨w_1, 0, hw, hM, (by decide), (by decide), f_a0_X5_4, (lv_sub hl [1, 2, 3, 0] rfl), rfl⟩
