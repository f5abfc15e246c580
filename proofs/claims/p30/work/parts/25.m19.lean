theorem tw_1037 : (Jvm.Cond.methodLink "BoyBishop" (327 : Nat) ({ cls := "BoyBishop$Chronicle", name := "firstFitting", desc := "()I" } : Jvm.MethodName)) ∈ gT := gT_in (List.mem_append_right _ (List.mem_append_right _ (List.mem_append_right _ (List.mem_append_right _ (List.mem_append_right _ (List.mem_append_left _ (List.mem_of_getElem? (i := 77) rfl))))))) rfl
theorem tw_1038 : (Jvm.Cond.instanceMethod ({ cls := "BoyBishop$Chronicle", name := "firstFitting", desc := "()I" } : Jvm.MethodName)) ∈ gT := gT_in (List.mem_append_right _ (List.mem_append_right _ (List.mem_append_right _ (List.mem_append_right _ (List.mem_append_right _ (List.mem_append_left _ (List.mem_of_getElem? (i := 78) rfl))))))) rfl
theorem tw_1039 : (Jvm.Cond.selects "BoyBishop$Chronicle" ({ cls := "BoyBishop$Chronicle", name := "firstFitting", desc := "()I" } : Jvm.MethodName) ({ cls := "BoyBishop$Chronicle", name := "firstFitting", desc := "()I" } : Jvm.MethodName)) ∈ gT := gT_in (List.mem_append_right _ (List.mem_append_right _ (List.mem_append_right _ (List.mem_append_right _ (List.mem_append_right _ (List.mem_append_left _ (List.mem_of_getElem? (i := 79) rfl))))))) rfl
theorem tw_1040 : (Jvm.Cond.code ({ cls := "BoyBishop$Chronicle", name := "firstFitting", desc := "()I" } : Jvm.MethodName) prog_4_method_6_code (2 : Nat) (Option.some Jvm.ClassFile.FieldType.int)) ∈ gT := gT_in (List.mem_append_right _ (List.mem_append_right _ (List.mem_append_right _ (List.mem_append_right _ (List.mem_append_right _ (List.mem_append_left _ (List.mem_of_getElem? (i := 80) rfl))))))) rfl
theorem tw_425 : (Jvm.Cond.fieldLink "BoyBishop" (26 : Nat) "BoyBishop" "ruleReader" "LBoyBishop$RuleReader;") ∈ gT := gT_in (List.mem_append_right _ (List.mem_append_right _ (List.mem_append_left _ (List.mem_of_getElem? (i := 185) rfl)))) rfl
theorem tw_43 : (Jvm.Cond.fieldLink "BoyBishop$RuleReader" (64 : Nat) "BoyBishop$Tape" "fault" "I") ∈ gT := gT_in (List.mem_append_right _ (List.mem_append_left _ (List.mem_of_getElem? (i := 43) rfl))) rfl
theorem tw_45 : (Jvm.Cond.fieldLink "BoyBishop" (112 : Nat) "BoyBishop$Tape" "fault" "I") ∈ gT := gT_in (List.mem_append_right _ (List.mem_append_left _ (List.mem_of_getElem? (i := 45) rfl))) rfl
theorem tw_493 : (Jvm.Cond.instanceMethod ({ cls := "BoyBishop$Tape", name := "startReading", desc := "()V" } : Jvm.MethodName)) ∈ gT := gT_in (List.mem_append_right _ (List.mem_append_right _ (List.mem_append_right _ (List.mem_append_left _ (List.mem_of_getElem? (i := 13) rfl))))) rfl
theorem tw_494 : (Jvm.Cond.selects "BoyBishop$Tape" ({ cls := "BoyBishop$Tape", name := "startReading", desc := "()V" } : Jvm.MethodName) ({ cls := "BoyBishop$Tape", name := "startReading", desc := "()V" } : Jvm.MethodName)) ∈ gT := gT_in (List.mem_append_right _ (List.mem_append_right _ (List.mem_append_right _ (List.mem_append_left _ (List.mem_of_getElem? (i := 14) rfl))))) rfl
theorem tw_495 : (Jvm.Cond.code ({ cls := "BoyBishop$Tape", name := "startReading", desc := "()V" } : Jvm.MethodName) prog_11_method_4_code (1 : Nat) (Option.none : Option Jvm.ClassFile.FieldType)) ∈ gT := gT_in (List.mem_append_right _ (List.mem_append_right _ (List.mem_append_right _ (List.mem_append_left _ (List.mem_of_getElem? (i := 15) rfl))))) rfl
theorem tw_599 : (Jvm.Cond.instanceMethod ({ cls := "BoyBishop$Tape", name := "atEnd", desc := "()Z" } : Jvm.MethodName)) ∈ gT := gT_in (List.mem_append_right _ (List.mem_append_right _ (List.mem_append_right _ (List.mem_append_left _ (List.mem_of_getElem? (i := 119) rfl))))) rfl
theorem tw_600 : (Jvm.Cond.selects "BoyBishop$Tape" ({ cls := "BoyBishop$Tape", name := "atEnd", desc := "()Z" } : Jvm.MethodName) ({ cls := "BoyBishop$Tape", name := "atEnd", desc := "()Z" } : Jvm.MethodName)) ∈ gT := gT_in (List.mem_append_right _ (List.mem_append_right _ (List.mem_append_right _ (List.mem_append_left _ (List.mem_of_getElem? (i := 120) rfl))))) rfl
theorem tw_601 : (Jvm.Cond.code ({ cls := "BoyBishop$Tape", name := "atEnd", desc := "()Z" } : Jvm.MethodName) prog_11_method_6_code (1 : Nat) (Option.some Jvm.ClassFile.FieldType.boolean)) ∈ gT := gT_in (List.mem_append_right _ (List.mem_append_right _ (List.mem_append_right _ (List.mem_append_left _ (List.mem_of_getElem? (i := 121) rfl))))) rfl
theorem tw_633 : (Jvm.Cond.methodLink "BoyBishop" (133 : Nat) ({ cls := "BoyBishop$RuleReader", name := "read", desc := "(LBoyBishop$Tape;LBoyBishop$Rule;)Z" } : Jvm.MethodName)) ∈ gT := gT_in (List.mem_append_right _ (List.mem_append_right _ (List.mem_append_right _ (List.mem_append_left _ (List.mem_of_getElem? (i := 153) rfl))))) rfl
theorem tw_634 : (Jvm.Cond.instanceMethod ({ cls := "BoyBishop$RuleReader", name := "read", desc := "(LBoyBishop$Tape;LBoyBishop$Rule;)Z" } : Jvm.MethodName)) ∈ gT := gT_in (List.mem_append_right _ (List.mem_append_right _ (List.mem_append_right _ (List.mem_append_left _ (List.mem_of_getElem? (i := 154) rfl))))) rfl
theorem tw_635 : (Jvm.Cond.selects "BoyBishop$RuleReader" ({ cls := "BoyBishop$RuleReader", name := "read", desc := "(LBoyBishop$Tape;LBoyBishop$Rule;)Z" } : Jvm.MethodName) ({ cls := "BoyBishop$RuleReader", name := "read", desc := "(LBoyBishop$Tape;LBoyBishop$Rule;)Z" } : Jvm.MethodName)) ∈ gT := gT_in (List.mem_append_right _ (List.mem_append_right _ (List.mem_append_right _ (List.mem_append_left _ (List.mem_of_getElem? (i := 155) rfl))))) rfl
theorem tw_636 : (Jvm.Cond.code ({ cls := "BoyBishop$RuleReader", name := "read", desc := "(LBoyBishop$Tape;LBoyBishop$Rule;)Z" } : Jvm.MethodName) prog_9_method_2_code (5 : Nat) (Option.some Jvm.ClassFile.FieldType.boolean)) ∈ gT := gT_in (List.mem_append_right _ (List.mem_append_right _ (List.mem_append_right _ (List.mem_append_left _ (List.mem_of_getElem? (i := 156) rfl))))) rfl
theorem tw_637 : (Jvm.Cond.methodLink "BoyBishop$RuleReader" (23 : Nat) ({ cls := "BoyBishop$Rule", name := "clear", desc := "()V" } : Jvm.MethodName)) ∈ gT := gT_in (List.mem_append_right _ (List.mem_append_right _ (List.mem_append_right _ (List.mem_append_left _ (List.mem_of_getElem? (i := 157) rfl))))) rfl
theorem tw_638 : (Jvm.Cond.instanceMethod ({ cls := "BoyBishop$Rule", name := "clear", desc := "()V" } : Jvm.MethodName)) ∈ gT := gT_in (List.mem_append_right _ (List.mem_append_right _ (List.mem_append_right _ (List.mem_append_left _ (List.mem_of_getElem? (i := 158) rfl))))) rfl
theorem tw_639 : (Jvm.Cond.selects "BoyBishop$Rule" ({ cls := "BoyBishop$Rule", name := "clear", desc := "()V" } : Jvm.MethodName) ({ cls := "BoyBishop$Rule", name := "clear", desc := "()V" } : Jvm.MethodName)) ∈ gT := gT_in (List.mem_append_right _ (List.mem_append_right _ (List.mem_append_right _ (List.mem_append_left _ (List.mem_of_getElem? (i := 159) rfl))))) rfl
theorem tw_640 : (Jvm.Cond.code ({ cls := "BoyBishop$Rule", name := "clear", desc := "()V" } : Jvm.MethodName) prog_8_method_2_code (1 : Nat) (Option.none : Option Jvm.ClassFile.FieldType)) ∈ gT := gT_in (List.mem_append_right _ (List.mem_append_right _ (List.mem_append_right _ (List.mem_append_left _ (List.mem_of_getElem? (i := 160) rfl))))) rfl
theorem tw_641 : (Jvm.Cond.methodLink "BoyBishop$RuleReader" (28 : Nat) ({ cls := "BoyBishop$Tape", name := "startReading", desc := "()V" } : Jvm.MethodName)) ∈ gT := gT_in (List.mem_append_right _ (List.mem_append_right _ (List.mem_append_right _ (List.mem_append_left _ (List.mem_of_getElem? (i := 161) rfl))))) rfl
theorem tw_645 : (Jvm.Cond.methodLink "BoyBishop$RuleReader" (46 : Nat) ({ cls := "BoyBishop$Rule", name := "beginClause", desc := "()V" } : Jvm.MethodName)) ∈ gT := gT_in (List.mem_append_right _ (List.mem_append_right _ (List.mem_append_right _ (List.mem_append_left _ (List.mem_of_getElem? (i := 165) rfl))))) rfl
theorem tw_646 : (Jvm.Cond.instanceMethod ({ cls := "BoyBishop$Rule", name := "beginClause", desc := "()V" } : Jvm.MethodName)) ∈ gT := gT_in (List.mem_append_right _ (List.mem_append_right _ (List.mem_append_right _ (List.mem_append_left _ (List.mem_of_getElem? (i := 166) rfl))))) rfl
theorem tw_647 : (Jvm.Cond.selects "BoyBishop$Rule" ({ cls := "BoyBishop$Rule", name := "beginClause", desc := "()V" } : Jvm.MethodName) ({ cls := "BoyBishop$Rule", name := "beginClause", desc := "()V" } : Jvm.MethodName)) ∈ gT := gT_in (List.mem_append_right _ (List.mem_append_right _ (List.mem_append_right _ (List.mem_append_left _ (List.mem_of_getElem? (i := 167) rfl))))) rfl
theorem tw_648 : (Jvm.Cond.code ({ cls := "BoyBishop$Rule", name := "beginClause", desc := "()V" } : Jvm.MethodName) prog_8_method_4_code (1 : Nat) (Option.none : Option Jvm.ClassFile.FieldType)) ∈ gT := gT_in (List.mem_append_right _ (List.mem_append_right _ (List.mem_append_right _ (List.mem_append_left _ (List.mem_of_getElem? (i := 168) rfl))))) rfl
theorem tw_674 : (Jvm.Cond.methodLink "BoyBishop$RuleReader" (52 : Nat) ({ cls := "BoyBishop$Rule", name := "beginTest", desc := "()V" } : Jvm.MethodName)) ∈ gT := gT_in (List.mem_append_right _ (List.mem_append_right _ (List.mem_append_right _ (List.mem_append_left _ (List.mem_of_getElem? (i := 194) rfl))))) rfl
theorem tw_675 : (Jvm.Cond.instanceMethod ({ cls := "BoyBishop$Rule", name := "beginTest", desc := "()V" } : Jvm.MethodName)) ∈ gT := gT_in (List.mem_append_right _ (List.mem_append_right _ (List.mem_append_right _ (List.mem_append_left _ (List.mem_of_getElem? (i := 195) rfl))))) rfl
theorem tw_676 : (Jvm.Cond.selects "BoyBishop$Rule" ({ cls := "BoyBishop$Rule", name := "beginTest", desc := "()V" } : Jvm.MethodName) ({ cls := "BoyBishop$Rule", name := "beginTest", desc := "()V" } : Jvm.MethodName)) ∈ gT := gT_in (List.mem_append_right _ (List.mem_append_right _ (List.mem_append_right _ (List.mem_append_left _ (List.mem_of_getElem? (i := 196) rfl))))) rfl
theorem tw_677 : (Jvm.Cond.code ({ cls := "BoyBishop$Rule", name := "beginTest", desc := "()V" } : Jvm.MethodName) prog_8_method_5_code (1 : Nat) (Option.none : Option Jvm.ClassFile.FieldType)) ∈ gT := gT_in (List.mem_append_right _ (List.mem_append_right _ (List.mem_append_right _ (List.mem_append_left _ (List.mem_of_getElem? (i := 197) rfl))))) rfl
theorem tw_697 : (Jvm.Cond.methodLink "BoyBishop$RuleReader" (61 : Nat) ({ cls := "BoyBishop$Rule", name := "endClause", desc := "()V" } : Jvm.MethodName)) ∈ gT := gT_in (List.mem_append_right _ (List.mem_append_right _ (List.mem_append_right _ (List.mem_append_left _ (List.mem_of_getElem? (i := 217) rfl))))) rfl
theorem tw_698 : (Jvm.Cond.instanceMethod ({ cls := "BoyBishop$Rule", name := "endClause", desc := "()V" } : Jvm.MethodName)) ∈ gT := gT_in (List.mem_append_right _ (List.mem_append_right _ (List.mem_append_right _ (List.mem_append_left _ (List.mem_of_getElem? (i := 218) rfl))))) rfl
theorem tw_699 : (Jvm.Cond.selects "BoyBishop$Rule" ({ cls := "BoyBishop$Rule", name := "endClause", desc := "()V" } : Jvm.MethodName) ({ cls := "BoyBishop$Rule", name := "endClause", desc := "()V" } : Jvm.MethodName)) ∈ gT := gT_in (List.mem_append_right _ (List.mem_append_right _ (List.mem_append_right _ (List.mem_append_left _ (List.mem_of_getElem? (i := 219) rfl))))) rfl
theorem tw_700 : (Jvm.Cond.code ({ cls := "BoyBishop$Rule", name := "endClause", desc := "()V" } : Jvm.MethodName) prog_8_method_6_code (1 : Nat) (Option.none : Option Jvm.ClassFile.FieldType)) ∈ gT := gT_in (List.mem_append_right _ (List.mem_append_right _ (List.mem_append_right _ (List.mem_append_left _ (List.mem_of_getElem? (i := 220) rfl))))) rfl
theorem tw_701 : (Jvm.Cond.methodLink "BoyBishop$RuleReader" (67 : Nat) ({ cls := "BoyBishop$Tape", name := "atEnd", desc := "()Z" } : Jvm.MethodName)) ∈ gT := gT_in (List.mem_append_right _ (List.mem_append_right _ (List.mem_append_right _ (List.mem_append_left _ (List.mem_of_getElem? (i := 221) rfl))))) rfl
theorem tw_858 : (Jvm.Cond.methodLink "BoyBishop$Standing" (117 : Nat) ({ cls := "BoyBishop$Standing", name := "partUpwards", desc := "(III)I" } : Jvm.MethodName)) ∈ gT := gT_in (List.mem_append_right _ (List.mem_append_right _ (List.mem_append_right _ (List.mem_append_right _ (List.mem_append_left _ (List.mem_of_getElem? (i := 138) rfl)))))) rfl
theorem tw_861 : (Jvm.Cond.constant "BoyBishop$Standing" (121 : Nat) (99999 : Int32)) ∈ gT := gT_in (List.mem_append_right _ (List.mem_append_right _ (List.mem_append_right _ (List.mem_append_right _ (List.mem_append_left _ (List.mem_of_getElem? (i := 141) rfl)))))) rfl
theorem tw_886 : (Jvm.Cond.methodLink "BoyBishop" (234 : Nat) ({ cls := "BoyBishop$Past", name := "takeBack", desc := "(LBoyBishop$Standing;)Z" } : Jvm.MethodName)) ∈ gT := gT_in (List.mem_append_right _ (List.mem_append_right _ (List.mem_append_right _ (List.mem_append_right _ (List.mem_append_left _ (List.mem_of_getElem? (i := 166) rfl)))))) rfl
theorem tw_887 : (Jvm.Cond.instanceMethod ({ cls := "BoyBishop$Past", name := "takeBack", desc := "(LBoyBishop$Standing;)Z" } : Jvm.MethodName)) ∈ gT := gT_in (List.mem_append_right _ (List.mem_append_right _ (List.mem_append_right _ (List.mem_append_right _ (List.mem_append_left _ (List.mem_of_getElem? (i := 167) rfl)))))) rfl
theorem tw_888 : (Jvm.Cond.selects "BoyBishop$Past" ({ cls := "BoyBishop$Past", name := "takeBack", desc := "(LBoyBishop$Standing;)Z" } : Jvm.MethodName) ({ cls := "BoyBishop$Past", name := "takeBack", desc := "(LBoyBishop$Standing;)Z" } : Jvm.MethodName)) ∈ gT := gT_in (List.mem_append_right _ (List.mem_append_right _ (List.mem_append_right _ (List.mem_append_right _ (List.mem_append_left _ (List.mem_of_getElem? (i := 168) rfl)))))) rfl
theorem tw_889 : (Jvm.Cond.code ({ cls := "BoyBishop$Past", name := "takeBack", desc := "(LBoyBishop$Standing;)Z" } : Jvm.MethodName) prog_6_method_3_code (2 : Nat) (Option.some Jvm.ClassFile.FieldType.boolean)) ∈ gT := gT_in (List.mem_append_right _ (List.mem_append_right _ (List.mem_append_right _ (List.mem_append_right _ (List.mem_append_left _ (List.mem_of_getElem? (i := 169) rfl)))))) rfl
theorem tw_949 : (Jvm.Cond.methodLink "BoyBishop" (274 : Nat) ({ cls := "java/lang/Integer", name := "bitCount", desc := "(I)I" } : Jvm.MethodName)) ∈ gT := gT_in (List.mem_append_right _ (List.mem_append_right _ (List.mem_append_right _ (List.mem_append_right _ (List.mem_append_left _ (List.mem_of_getElem? (i := 229) rfl)))))) rfl
theorem dX11_rule_0 : decode cX11_rule 0 = .ok (.aload_n 0, 1) := by decide +kernel
theorem dX11_rule_1 : decode cX11_rule 1 = .ok (.getfield 130, 3) := by decide +kernel
theorem dX11_rule_4 : decode cX11_rule 4 = .ok (.bipush 6, 2) := by decide +kernel
theorem dX11_rule_6 : decode cX11_rule 6 = .ok (.if_icmp .lt 5, 3) := by decide +kernel
theorem dX11_rule_9 : decode cX11_rule 9 = .ok (.iconst (-1), 1) := by decide +kernel
theorem dX11_rule_10 : decode cX11_rule 10 = .ok (.ireturn, 1) := by decide +kernel
theorem dX11_rule_11 : decode cX11_rule 11 = .ok (.aload_n 0, 1) := by decide +kernel
theorem dX11_rule_12 : decode cX11_rule 12 = .ok (.getfield 26, 3) := by decide +kernel
theorem dX11_rule_15 : decode cX11_rule 15 = .ok (.aload_n 0, 1) := by decide +kernel
theorem dX11_rule_16 : decode cX11_rule 16 = .ok (.getfield 10, 3) := by decide +kernel
theorem dX11_rule_19 : decode cX11_rule 19 = .ok (.aload_n 0, 1) := by decide +kernel
theorem dX11_rule_20 : decode cX11_rule 20 = .ok (.getfield 32, 3) := by decide +kernel
theorem dX11_rule_23 : decode cX11_rule 23 = .ok (.aload_n 0, 1) := by decide +kernel
theorem dX11_rule_24 : decode cX11_rule 24 = .ok (.getfield 130, 3) := by decide +kernel
theorem dX11_rule_27 : decode cX11_rule 27 = .ok (.aaload, 1) := by decide +kernel
theorem dX11_rule_28 : decode cX11_rule 28 = .ok (.invokevirtual 133, 3) := by decide +kernel
theorem dX11_rule_31 : decode cX11_rule 31 = .ok (.ifCond .ne 14, 3) := by decide +kernel
theorem dX11_rule_34 : decode cX11_rule 34 = .ok (.bipush (-2), 2) := by decide +kernel
theorem dX11_rule_36 : decode cX11_rule 36 = .ok (.aload_n 0, 1) := by decide +kernel
theorem dX11_rule_37 : decode cX11_rule 37 = .ok (.getfield 10, 3) := by decide +kernel
theorem dX11_rule_40 : decode cX11_rule 40 = .ok (.getfield 112, 3) := by decide +kernel
theorem dX11_rule_43 : decode cX11_rule 43 = .ok (.isub, 1) := by decide +kernel
theorem dX11_rule_44 : decode cX11_rule 44 = .ok (.ireturn, 1) := by decide +kernel
theorem dX11_rule_45 : decode cX11_rule 45 = .ok (.aload_n 0, 1) := by decide +kernel
theorem dX11_rule_46 : decode cX11_rule 46 = .ok (.getfield 10, 3) := by decide +kernel
theorem dX11_rule_49 : decode cX11_rule 49 = .ok (.iconst 0, 1) := by decide +kernel
theorem dX11_rule_50 : decode cX11_rule 50 = .ok (.putfield 104, 3) := by decide +kernel
theorem dX11_rule_53 : decode cX11_rule 53 = .ok (.aload_n 0, 1) := by decide +kernel
theorem dX11_rule_54 : decode cX11_rule 54 = .ok (.dup, 1) := by decide +kernel
theorem dX11_rule_55 : decode cX11_rule 55 = .ok (.getfield 130, 3) := by decide +kernel
theorem dX11_rule_58 : decode cX11_rule 58 = .ok (.iconst 1, 1) := by decide +kernel
theorem dX11_rule_59 : decode cX11_rule 59 = .ok (.iadd, 1) := by decide +kernel
theorem dX11_rule_60 : decode cX11_rule 60 = .ok (.putfield 130, 3) := by decide +kernel
theorem dX11_rule_63 : decode cX11_rule 63 = .ok (.aload_n 0, 1) := by decide +kernel
theorem dX11_rule_64 : decode cX11_rule 64 = .ok (.getfield 130, 3) := by decide +kernel
theorem dX11_rule_67 : decode cX11_rule 67 = .ok (.iconst 1, 1) := by decide +kernel
theorem dX11_rule_68 : decode cX11_rule 68 = .ok (.isub, 1) := by decide +kernel
theorem dX11_rule_69 : decode cX11_rule 69 = .ok (.ireturn, 1) := by decide +kernel
theorem dX11_ruled_0 : decode cX11_ruled 0 = .ok (.aload_n 0, 1) := by decide +kernel
theorem dX11_ruled_1 : decode cX11_ruled 1 = .ok (.getfield 45, 3) := by decide +kernel
theorem dX11_ruled_4 : decode cX11_ruled 4 = .ok (.getfield 53, 3) := by decide +kernel
theorem dX11_ruled_7 : decode cX11_ruled 7 = .ok (.getfield 194, 3) := by decide +kernel
theorem dX11_ruled_10 : decode cX11_ruled 10 = .ok (.ifCond .eq 12, 3) := by decide +kernel
theorem dX11_ruled_13 : decode cX11_ruled 13 = .ok (.iload_n 1, 1) := by decide +kernel
theorem dX11_ruled_14 : decode cX11_ruled 14 = .ok (.ifCond .lt 8, 3) := by decide +kernel
theorem dX11_ruled_17 : decode cX11_ruled 17 = .ok (.iload_n 1, 1) := by decide +kernel
theorem dX11_ruled_18 : decode cX11_ruled 18 = .ok (.iconst 1, 1) := by decide +kernel
theorem dX11_ruled_19 : decode cX11_ruled 19 = .ok (.if_icmp .le 6, 3) := by decide +kernel
theorem dX11_ruled_22 : decode cX11_ruled 22 = .ok (.bipush (-3), 2) := by decide +kernel
theorem dX11_ruled_24 : decode cX11_ruled 24 = .ok (.ireturn, 1) := by decide +kernel
theorem dX11_ruled_25 : decode cX11_ruled 25 = .ok (.aload_n 0, 1) := by decide +kernel
theorem dX11_ruled_26 : decode cX11_ruled 26 = .ok (.getfield 85, 3) := by decide +kernel
theorem dX11_ruled_29 : decode cX11_ruled 29 = .ok (.aload_n 0, 1) := by decide +kernel
theorem dX11_ruled_30 : decode cX11_ruled 30 = .ok (.getfield 45, 3) := by decide +kernel
theorem dX11_ruled_33 : decode cX11_ruled 33 = .ok (.aload_n 0, 1) := by decide +kernel
theorem dX11_ruled_34 : decode cX11_ruled 34 = .ok (.getfield 32, 3) := by decide +kernel
theorem dX11_ruled_37 : decode cX11_ruled 37 = .ok (.aload_n 0, 1) := by decide +kernel
theorem dX11_ruled_38 : decode cX11_ruled 38 = .ok (.getfield 130, 3) := by decide +kernel
theorem dX11_ruled_41 : decode cX11_ruled 41 = .ok (.invokevirtual 320, 3) := by decide +kernel
theorem dX11_ruled_44 : decode cX11_ruled 44 = .ok (.iload_n 1, 1) := by decide +kernel
theorem dX11_ruled_45 : decode cX11_ruled 45 = .ok (.ifCond .ne 16, 3) := by decide +kernel
theorem dX11_ruled_48 : decode cX11_ruled 48 = .ok (.aload_n 0, 1) := by decide +kernel
theorem dX11_ruled_49 : decode cX11_ruled 49 = .ok (.getfield 85, 3) := by decide +kernel
theorem dX11_ruled_52 : decode cX11_ruled 52 = .ok (.getfield 324, 3) := by decide +kernel
theorem dX11_ruled_55 : decode cX11_ruled 55 = .ok (.invokestatic 274, 3) := by decide +kernel
theorem dX11_ruled_58 : decode cX11_ruled 58 = .ok (.goto 10, 3) := by decide +kernel
theorem dX11_ruled_61 : decode cX11_ruled 61 = .ok (.aload_n 0, 1) := by decide +kernel
theorem dX11_ruled_62 : decode cX11_ruled 62 = .ok (.getfield 85, 3) := by decide +kernel
theorem dX11_ruled_65 : decode cX11_ruled 65 = .ok (.invokevirtual 327, 3) := by decide +kernel
theorem dX11_ruled_68 : decode cX11_ruled 68 = .ok (.ireturn, 1) := by decide +kernel
theorem dX11_seed_0 : decode cX11_seed 0 = .ok (.iload_n 1, 1) := by decide +kernel
theorem dX11_seed_1 : decode cX11_seed 1 = .ok (.ifCond .ge 5, 3) := by decide +kernel
theorem dX11_seed_4 : decode cX11_seed 4 = .ok (.iconst (-1), 1) := by decide +kernel
theorem dX11_seed_5 : decode cX11_seed 5 = .ok (.ireturn, 1) := by decide +kernel
theorem dX11_seed_6 : decode cX11_seed 6 = .ok (.aload_n 0, 1) := by decide +kernel
theorem dX11_seed_7 : decode cX11_seed 7 = .ok (.getfield 45, 3) := by decide +kernel
theorem dX11_seed_10 : decode cX11_seed 10 = .ok (.getfield 336, 3) := by decide +kernel
theorem dX11_seed_13 : decode cX11_seed 13 = .ok (.istore_n 2, 1) := by decide +kernel
theorem dX11_seed_14 : decode cX11_seed 14 = .ok (.aload_n 0, 1) := by decide +kernel
theorem dX11_seed_15 : decode cX11_seed 15 = .ok (.getfield 45, 3) := by decide +kernel
theorem dX11_seed_18 : decode cX11_seed 18 = .ok (.iload_n 1, 1) := by decide +kernel
theorem dX11_seed_19 : decode cX11_seed 19 = .ok (.putfield 336, 3) := by decide +kernel
theorem dX11_seed_22 : decode cX11_seed 22 = .ok (.iload_n 2, 1) := by decide +kernel
theorem dX11_seed_23 : decode cX11_seed 23 = .ok (.ireturn, 1) := by decide +kernel
theorem dX11_undo_0 : decode cX11_undo 0 = .ok (.aload_n 0, 1) := by decide +kernel
theorem dX11_undo_1 : decode cX11_undo 1 = .ok (.getfield 60, 3) := by decide +kernel
theorem dX11_undo_4 : decode cX11_undo 4 = .ok (.aload_n 0, 1) := by decide +kernel
theorem dX11_undo_5 : decode cX11_undo 5 = .ok (.getfield 45, 3) := by decide +kernel
theorem dX11_undo_8 : decode cX11_undo 8 = .ok (.getfield 115, 3) := by decide +kernel
theorem dX11_undo_11 : decode cX11_undo 11 = .ok (.invokevirtual 234, 3) := by decide +kernel
theorem dX11_undo_14 : decode cX11_undo 14 = .ok (.ifCond .eq 13, 3) := by decide +kernel
theorem dX11_undo_17 : decode cX11_undo 17 = .ok (.aload_n 0, 1) := by decide +kernel
theorem dX11_undo_18 : decode cX11_undo 18 = .ok (.getfield 60, 3) := by decide +kernel
theorem dX11_undo_21 : decode cX11_undo 21 = .ok (.getfield 238, 3) := by decide +kernel
theorem dX11_undo_24 : decode cX11_undo 24 = .ok (.goto 4, 3) := by decide +kernel
theorem dX11_undo_27 : decode cX11_undo 27 = .ok (.iconst (-1), 1) := by decide +kernel
theorem dX11_undo_28 : decode cX11_undo 28 = .ok (.ireturn, 1) := by decide +kernel
theorem dX2_firstFitting_0 : decode cX2_firstFitting 0 = .ok (.iconst 0, 1) := by decide +kernel
theorem dX2_firstFitting_1 : decode cX2_firstFitting 1 = .ok (.istore_n 1, 1) := by decide +kernel
theorem dX2_firstFitting_2 : decode cX2_firstFitting 2 = .ok (.iload_n 1, 1) := by decide +kernel
theorem dX2_firstFitting_3 : decode cX2_firstFitting 3 = .ok (.bipush 7, 2) := by decide +kernel
theorem dX2_firstFitting_5 : decode cX2_firstFitting 5 = .ok (.if_icmp .ge 21, 3) := by decide +kernel
theorem dX2_firstFitting_8 : decode cX2_firstFitting 8 = .ok (.aload_n 0, 1) := by decide +kernel
theorem dX2_firstFitting_9 : decode cX2_firstFitting 9 = .ok (.iload_n 1, 1) := by decide +kernel
theorem dX2_firstFitting_10 : decode cX2_firstFitting 10 = .ok (.invokevirtual 72, 3) := by decide +kernel
theorem dX2_firstFitting_13 : decode cX2_firstFitting 13 = .ok (.ifCond .eq 7, 3) := by decide +kernel
theorem dX2_firstFitting_16 : decode cX2_firstFitting 16 = .ok (.iload_n 1, 1) := by decide +kernel
theorem dX2_firstFitting_17 : decode cX2_firstFitting 17 = .ok (.iconst 1, 1) := by decide +kernel
theorem dX2_firstFitting_18 : decode cX2_firstFitting 18 = .ok (.isub, 1) := by decide +kernel
theorem dX2_firstFitting_19 : decode cX2_firstFitting 19 = .ok (.ireturn, 1) := by decide +kernel
theorem dX2_firstFitting_20 : decode cX2_firstFitting 20 = .ok (.iinc 1 1, 3) := by decide +kernel
theorem dX2_firstFitting_23 : decode cX2_firstFitting 23 = .ok (.goto (-21), 3) := by decide +kernel
theorem dX2_firstFitting_26 : decode cX2_firstFitting 26 = .ok (.bipush (-2), 2) := by decide +kernel
theorem dX2_firstFitting_28 : decode cX2_firstFitting 28 = .ok (.ireturn, 1) := by decide +kernel
theorem dX4_takeBack_0 : decode cX4_takeBack 0 = .ok (.aload_n 0, 1) := by decide +kernel
theorem dX4_takeBack_1 : decode cX4_takeBack 1 = .ok (.getfield 24, 3) := by decide +kernel
theorem dX4_takeBack_4 : decode cX4_takeBack 4 = .ok (.iconst 1, 1) := by decide +kernel
theorem dX4_takeBack_5 : decode cX4_takeBack 5 = .ok (.if_icmp .ge 5, 3) := by decide +kernel
theorem dX4_takeBack_8 : decode cX4_takeBack 8 = .ok (.iconst 0, 1) := by decide +kernel
theorem dX4_takeBack_9 : decode cX4_takeBack 9 = .ok (.ireturn, 1) := by decide +kernel
theorem dX4_takeBack_10 : decode cX4_takeBack 10 = .ok (.aload_n 0, 1) := by decide +kernel
theorem dX4_takeBack_11 : decode cX4_takeBack 11 = .ok (.aload_n 0, 1) := by decide +kernel
theorem dX4_takeBack_12 : decode cX4_takeBack 12 = .ok (.getfield 16, 3) := by decide +kernel
theorem dX4_takeBack_15 : decode cX4_takeBack 15 = .ok (.bipush 20, 2) := by decide +kernel
theorem dX4_takeBack_17 : decode cX4_takeBack 17 = .ok (.iadd, 1) := by decide +kernel
theorem dX4_takeBack_18 : decode cX4_takeBack 18 = .ok (.iconst 1, 1) := by decide +kernel
theorem dX4_takeBack_19 : decode cX4_takeBack 19 = .ok (.isub, 1) := by decide +kernel
theorem dX4_takeBack_20 : decode cX4_takeBack 20 = .ok (.bipush 20, 2) := by decide +kernel
theorem dX4_takeBack_22 : decode cX4_takeBack 22 = .ok (.irem, 1) := by decide +kernel
theorem dX4_takeBack_23 : decode cX4_takeBack 23 = .ok (.putfield 16, 3) := by decide +kernel
theorem dX4_takeBack_26 : decode cX4_takeBack 26 = .ok (.aload_n 0, 1) := by decide +kernel
theorem dX4_takeBack_27 : decode cX4_takeBack 27 = .ok (.dup, 1) := by decide +kernel
theorem dX4_takeBack_28 : decode cX4_takeBack 28 = .ok (.getfield 24, 3) := by decide +kernel
theorem dX4_takeBack_31 : decode cX4_takeBack 31 = .ok (.iconst 1, 1) := by decide +kernel
theorem dX4_takeBack_32 : decode cX4_takeBack 32 = .ok (.isub, 1) := by decide +kernel
theorem dX4_takeBack_33 : decode cX4_takeBack 33 = .ok (.putfield 24, 3) := by decide +kernel
theorem dX4_takeBack_36 : decode cX4_takeBack 36 = .ok (.aload_n 1, 1) := by decide +kernel
theorem dX4_takeBack_37 : decode cX4_takeBack 37 = .ok (.aload_n 0, 1) := by decide +kernel
theorem dX4_takeBack_38 : decode cX4_takeBack 38 = .ok (.getfield 11, 3) := by decide +kernel
theorem dX4_takeBack_41 : decode cX4_takeBack 41 = .ok (.aload_n 0, 1) := by decide +kernel
theorem dX4_takeBack_42 : decode cX4_takeBack 42 = .ok (.getfield 16, 3) := by decide +kernel
theorem dX4_takeBack_45 : decode cX4_takeBack 45 = .ok (.aaload, 1) := by decide +kernel
theorem dX4_takeBack_46 : decode cX4_takeBack 46 = .ok (.invokevirtual 20, 3) := by decide +kernel
theorem dX4_takeBack_49 : decode cX4_takeBack 49 = .ok (.iconst 1, 1) := by decide +kernel
theorem dX4_takeBack_50 : decode cX4_takeBack 50 = .ok (.ireturn, 1) := by decide +kernel
theorem dX7_read_0 : decode cX7_read 0 = .ok (.aload_n 0, 1) := by decide +kernel
theorem dX7_read_1 : decode cX7_read 1 = .ok (.aload_n 1, 1) := by decide +kernel
theorem dX7_read_2 : decode cX7_read 2 = .ok (.putfield 9, 3) := by decide +kernel
theorem dX7_read_5 : decode cX7_read 5 = .ok (.aload_n 0, 1) := by decide +kernel
theorem dX7_read_6 : decode cX7_read 6 = .ok (.aload_n 2, 1) := by decide +kernel
theorem dX7_read_7 : decode cX7_read 7 = .ok (.putfield 15, 3) := by decide +kernel
theorem dX7_read_10 : decode cX7_read 10 = .ok (.aload_n 0, 1) := by decide +kernel
theorem dX7_read_11 : decode cX7_read 11 = .ok (.iconst 0, 1) := by decide +kernel
theorem dX7_read_12 : decode cX7_read 12 = .ok (.putfield 19, 3) := by decide +kernel
theorem dX7_read_15 : decode cX7_read 15 = .ok (.aload_n 0, 1) := by decide +kernel
theorem dX7_read_16 : decode cX7_read 16 = .ok (.getfield 15, 3) := by decide +kernel
theorem dX7_read_19 : decode cX7_read 19 = .ok (.invokevirtual 23, 3) := by decide +kernel
theorem dX7_read_22 : decode cX7_read 22 = .ok (.aload_n 0, 1) := by decide +kernel
theorem dX7_read_23 : decode cX7_read 23 = .ok (.getfield 9, 3) := by decide +kernel
theorem dX7_read_26 : decode cX7_read 26 = .ok (.invokevirtual 28, 3) := by decide +kernel
theorem dX7_read_29 : decode cX7_read 29 = .ok (.iconst 0, 1) := by decide +kernel
theorem dX7_read_30 : decode cX7_read 30 = .ok (.istore_n 3, 1) := by decide +kernel
theorem dX7_read_31 : decode cX7_read 31 = .ok (.iload_n 3, 1) := by decide +kernel
theorem dX7_read_32 : decode cX7_read 32 = .ok (.bipush 12, 2) := by decide +kernel
theorem dX7_read_34 : decode cX7_read 34 = .ok (.if_icmp .gt 153, 3) := by decide +kernel
theorem dX7_read_37 : decode cX7_read 37 = .ok (.aload_n 0, 1) := by decide +kernel
theorem dX7_read_38 : decode cX7_read 38 = .ok (.getfield 9, 3) := by decide +kernel
theorem dX7_read_41 : decode cX7_read 41 = .ok (.getfield 33, 3) := by decide +kernel
theorem dX7_read_44 : decode cX7_read 44 = .ok (.istore 4, 2) := by decide +kernel
theorem dX7_read_46 : decode cX7_read 46 = .ok (.aload_n 0, 1) := by decide +kernel
theorem dX7_read_47 : decode cX7_read 47 = .ok (.getfield 9, 3) := by decide +kernel
theorem dX7_read_50 : decode cX7_read 50 = .ok (.ldc 36, 2) := by decide +kernel
theorem dX7_read_52 : decode cX7_read 52 = .ok (.invokevirtual 38, 3) := by decide +kernel
theorem dX7_read_55 : decode cX7_read 55 = .ok (.iconst (-1), 1) := by decide +kernel
theorem dX7_read_56 : decode cX7_read 56 = .ok (.if_icmp .ne 16, 3) := by decide +kernel
theorem dX7_read_59 : decode cX7_read 59 = .ok (.aload_n 0, 1) := by decide +kernel
theorem dX7_read_60 : decode cX7_read 60 = .ok (.getfield 9, 3) := by decide +kernel
theorem dX7_read_63 : decode cX7_read 63 = .ok (.iload 4, 2) := by decide +kernel
theorem dX7_read_65 : decode cX7_read 65 = .ok (.iconst 0, 1) := by decide +kernel
theorem dX7_read_66 : decode cX7_read 66 = .ok (.invokevirtual 42, 3) := by decide +kernel
theorem dX7_read_69 : decode cX7_read 69 = .ok (.goto 19, 3) := by decide +kernel
theorem dX7_read_72 : decode cX7_read 72 = .ok (.iload_n 3, 1) := by decide +kernel
theorem dX7_read_73 : decode cX7_read 73 = .ok (.bipush 12, 2) := by decide +kernel
theorem dX7_read_75 : decode cX7_read 75 = .ok (.if_icmp .lt 13, 3) := by decide +kernel
theorem dX7_read_78 : decode cX7_read 78 = .ok (.aload_n 0, 1) := by decide +kernel
theorem dX7_read_79 : decode cX7_read 79 = .ok (.getfield 9, 3) := by decide +kernel
theorem dX7_read_82 : decode cX7_read 82 = .ok (.iload 4, 2) := by decide +kernel
theorem dX7_read_84 : decode cX7_read 84 = .ok (.iconst 4, 1) := by decide +kernel
theorem dX7_read_85 : decode cX7_read 85 = .ok (.invokevirtual 42, 3) := by decide +kernel
theorem dX7_read_88 : decode cX7_read 88 = .ok (.aload_n 0, 1) := by decide +kernel
theorem dX7_read_89 : decode cX7_read 89 = .ok (.getfield 15, 3) := by decide +kernel
theorem dX7_read_92 : decode cX7_read 92 = .ok (.invokevirtual 46, 3) := by decide +kernel
theorem dX7_read_95 : decode cX7_read 95 = .ok (.aload_n 0, 1) := by decide +kernel
theorem dX7_read_96 : decode cX7_read 96 = .ok (.invokevirtual 49, 3) := by decide +kernel
theorem dX7_read_99 : decode cX7_read 99 = .ok (.aload_n 0, 1) := by decide +kernel
theorem dX7_read_100 : decode cX7_read 100 = .ok (.getfield 15, 3) := by decide +kernel
theorem dX7_read_103 : decode cX7_read 103 = .ok (.invokevirtual 52, 3) := by decide +kernel
theorem dX7_read_106 : decode cX7_read 106 = .ok (.aload_n 0, 1) := by decide +kernel
theorem dX7_read_107 : decode cX7_read 107 = .ok (.getfield 9, 3) := by decide +kernel
theorem dX7_read_110 : decode cX7_read 110 = .ok (.ldc 55, 2) := by decide +kernel
theorem dX7_read_112 : decode cX7_read 112 = .ok (.invokevirtual 38, 3) := by decide +kernel
theorem dX7_read_115 : decode cX7_read 115 = .ok (.iconst (-1), 1) := by decide +kernel
theorem dX7_read_116 : decode cX7_read 116 = .ok (.if_icmp .eq 8, 3) := by decide +kernel
theorem dX7_read_119 : decode cX7_read 119 = .ok (.aload_n 0, 1) := by decide +kernel
theorem dX7_read_120 : decode cX7_read 120 = .ok (.iconst 0, 1) := by decide +kernel
theorem dX7_read_121 : decode cX7_read 121 = .ok (.invokevirtual 57, 3) := by decide +kernel
theorem dX7_read_124 : decode cX7_read 124 = .ok (.aload_n 0, 1) := by decide +kernel
theorem dX7_read_125 : decode cX7_read 125 = .ok (.getfield 15, 3) := by decide +kernel
theorem dX7_read_128 : decode cX7_read 128 = .ok (.invokevirtual 61, 3) := by decide +kernel
theorem dX7_read_131 : decode cX7_read 131 = .ok (.aload_n 0, 1) := by decide +kernel
theorem dX7_read_132 : decode cX7_read 132 = .ok (.getfield 9, 3) := by decide +kernel
theorem dX7_read_135 : decode cX7_read 135 = .ok (.getfield 64, 3) := by decide +kernel
theorem dX7_read_138 : decode cX7_read 138 = .ok (.ifCond .ne 49, 3) := by decide +kernel
theorem dX7_read_141 : decode cX7_read 141 = .ok (.aload_n 0, 1) := by decide +kernel
theorem dX7_read_142 : decode cX7_read 142 = .ok (.getfield 9, 3) := by decide +kernel
theorem dX7_read_145 : decode cX7_read 145 = .ok (.invokevirtual 67, 3) := by decide +kernel
theorem dX7_read_148 : decode cX7_read 148 = .ok (.ifCond .eq 6, 3) := by decide +kernel
theorem dX7_read_151 : decode cX7_read 151 = .ok (.goto 36, 3) := by decide +kernel
theorem dX7_read_154 : decode cX7_read 154 = .ok (.aload_n 0, 1) := by decide +kernel
theorem dX7_read_155 : decode cX7_read 155 = .ok (.getfield 9, 3) := by decide +kernel
theorem dX7_read_158 : decode cX7_read 158 = .ok (.bipush 59, 2) := by decide +kernel
theorem dX7_read_160 : decode cX7_read 160 = .ok (.invokevirtual 71, 3) := by decide +kernel
theorem dX7_read_163 : decode cX7_read 163 = .ok (.ifCond .ne 18, 3) := by decide +kernel
theorem dX7_read_166 : decode cX7_read 166 = .ok (.aload_n 0, 1) := by decide +kernel
theorem dX7_read_167 : decode cX7_read 167 = .ok (.getfield 9, 3) := by decide +kernel
theorem dX7_read_170 : decode cX7_read 170 = .ok (.aload_n 0, 1) := by decide +kernel
theorem dX7_read_171 : decode cX7_read 171 = .ok (.getfield 9, 3) := by decide +kernel
theorem dX7_read_174 : decode cX7_read 174 = .ok (.getfield 33, 3) := by decide +kernel
theorem dX7_read_177 : decode cX7_read 177 = .ok (.iconst 0, 1) := by decide +kernel
theorem dX7_read_178 : decode cX7_read 178 = .ok (.invokevirtual 42, 3) := by decide +kernel
theorem dX7_read_181 : decode cX7_read 181 = .ok (.iinc 3 1, 3) := by decide +kernel
theorem dX7_read_184 : decode cX7_read 184 = .ok (.goto (-153), 3) := by decide +kernel
theorem dX7_read_187 : decode cX7_read 187 = .ok (.aload_n 0, 1) := by decide +kernel
theorem dX7_read_188 : decode cX7_read 188 = .ok (.getfield 9, 3) := by decide +kernel
theorem dX7_read_191 : decode cX7_read 191 = .ok (.getfield 64, 3) := by decide +kernel
theorem dX7_read_194 : decode cX7_read 194 = .ok (.ifCond .ne 7, 3) := by decide +kernel
theorem dX7_read_197 : decode cX7_read 197 = .ok (.iconst 1, 1) := by decide +kernel
theorem dX7_read_198 : decode cX7_read 198 = .ok (.goto 4, 3) := by decide +kernel
theorem dX7_read_201 : decode cX7_read 201 = .ok (.iconst 0, 1) := by decide +kernel
theorem dX7_read_202 : decode cX7_read 202 = .ok (.ireturn, 1) := by decide +kernel
theorem dX8_fetch_0 : decode cX8_fetch 0 = .ok (.aload_n 0, 1) := by decide +kernel
theorem dX8_fetch_1 : decode cX8_fetch 1 = .ok (.getfield 34, 3) := by decide +kernel
theorem dX8_fetch_4 : decode cX8_fetch 4 = .ok (.iload_n 1, 1) := by decide +kernel
theorem dX8_fetch_5 : decode cX8_fetch 5 = .ok (.iaload, 1) := by decide +kernel
theorem dX8_fetch_6 : decode cX8_fetch 6 = .ok (.aload_n 0, 1) := by decide +kernel
theorem dX8_fetch_7 : decode cX8_fetch 7 = .ok (.getfield 22, 3) := by decide +kernel
theorem dX8_fetch_10 : decode cX8_fetch 10 = .ok (.aload_n 0, 1) := by decide +kernel
theorem dX8_fetch_11 : decode cX8_fetch 11 = .ok (.getfield 9, 3) := by decide +kernel
theorem dX8_fetch_14 : decode cX8_fetch 14 = .ok (.iaload, 1) := by decide +kernel
theorem dX8_fetch_15 : decode cX8_fetch 15 = .ok (.bipush 100, 2) := by decide +kernel
theorem dX8_fetch_17 : decode cX8_fetch 17 = .ok (.invokestatic 117, 3) := by decide +kernel
theorem dX8_fetch_20 : decode cX8_fetch 20 = .ok (.istore_n 2, 1) := by decide +kernel
theorem dX8_fetch_21 : decode cX8_fetch 21 = .ok (.aload_n 0, 1) := by decide +kernel
theorem dX8_fetch_22 : decode cX8_fetch 22 = .ok (.getfield 34, 3) := by decide +kernel
theorem dX8_fetch_25 : decode cX8_fetch 25 = .ok (.iload_n 1, 1) := by decide +kernel
theorem dX8_fetch_26 : decode cX8_fetch 26 = .ok (.iaload, 1) := by decide +kernel
theorem dX8_fetch_27 : decode cX8_fetch 27 = .ok (.iload_n 2, 1) := by decide +kernel
theorem dX8_fetch_28 : decode cX8_fetch 28 = .ok (.isub, 1) := by decide +kernel
theorem dX8_fetch_29 : decode cX8_fetch 29 = .ok (.istore_n 3, 1) := by decide +kernel
theorem dX8_fetch_30 : decode cX8_fetch 30 = .ok (.aload_n 0, 1) := by decide +kernel
theorem dX8_fetch_31 : decode cX8_fetch 31 = .ok (.iconst 1, 1) := by decide +kernel
theorem dX8_fetch_32 : decode cX8_fetch 32 = .ok (.putfield 40, 3) := by decide +kernel
theorem dX8_fetch_35 : decode cX8_fetch 35 = .ok (.aload_n 0, 1) := by decide +kernel
theorem dX8_fetch_36 : decode cX8_fetch 36 = .ok (.getfield 34, 3) := by decide +kernel
theorem dX8_fetch_39 : decode cX8_fetch 39 = .ok (.iload_n 1, 1) := by decide +kernel
theorem dX8_fetch_40 : decode cX8_fetch 40 = .ok (.iconst 0, 1) := by decide +kernel
theorem dX8_fetch_41 : decode cX8_fetch 41 = .ok (.iastore, 1) := by decide +kernel
theorem dX8_fetch_42 : decode cX8_fetch 42 = .ok (.aload_n 0, 1) := by decide +kernel
theorem dX8_fetch_43 : decode cX8_fetch 43 = .ok (.ldc 121, 2) := by decide +kernel
theorem dX8_fetch_45 : decode cX8_fetch 45 = .ok (.aload_n 0, 1) := by decide +kernel
theorem dX8_fetch_46 : decode cX8_fetch 46 = .ok (.getfield 44, 3) := by decide +kernel
theorem dX8_fetch_49 : decode cX8_fetch 49 = .ok (.iload_n 3, 1) := by decide +kernel
theorem dX8_fetch_50 : decode cX8_fetch 50 = .ok (.iadd, 1) := by decide +kernel
theorem dX8_fetch_51 : decode cX8_fetch 51 = .ok (.invokestatic 96, 3) := by decide +kernel
theorem dX8_fetch_54 : decode cX8_fetch 54 = .ok (.putfield 44, 3) := by decide +kernel
theorem dX8_fetch_57 : decode cX8_fetch 57 = .ok (.aload_n 0, 1) := by decide +kernel
theorem dX8_fetch_58 : decode cX8_fetch 58 = .ok (.ldc 121, 2) := by decide +kernel
theorem dX8_fetch_60 : decode cX8_fetch 60 = .ok (.aload_n 0, 1) := by decide +kernel
theorem dX8_fetch_61 : decode cX8_fetch 61 = .ok (.getfield 47, 3) := by decide +kernel
theorem dX8_fetch_64 : decode cX8_fetch 64 = .ok (.iload_n 2, 1) := by decide +kernel
theorem dX8_fetch_65 : decode cX8_fetch 65 = .ok (.iadd, 1) := by decide +kernel
theorem dX8_fetch_66 : decode cX8_fetch 66 = .ok (.invokestatic 96, 3) := by decide +kernel
theorem dX8_fetch_69 : decode cX8_fetch 69 = .ok (.putfield 47, 3) := by decide +kernel
theorem dX8_fetch_72 : decode cX8_fetch 72 = .ok (.iload_n 3, 1) := by decide +kernel
theorem dX8_fetch_73 : decode cX8_fetch 73 = .ok (.ireturn, 1) := by decide +kernel
theorem li_m2 : ((-2) : Int32).toInt = -2 := by decide
set_option maxHeartbeats 4000000 in
set_option maxRecDepth 100000 in
theorem t_X7_readTest_0 (l : Launch) (dC : Nat → ClassId) (dI : Nat → Nat → Nat) (tys : List (ClassId × FieldType)) (κ : tK) (B : Nat) (ws : va_W) (hT : Ty κ tys B ws) (aK aV : Nat → Nat) (a0 : Nat) (k_a0 : κ a0 = some 7) (a1 : Int32) (l_a1 : 0 ≤ a1.toInt) (h_a1 : a1.toInt ≤ 0) (f0 : Nat) (k_f0 : κ f0 = some 9) (f_a0_X7_0 : fld ws a0 7 0 (.ref f0)) (f1 : Nat) (k_f1 : κ f1 = some 6) (f_a0_X7_1 : fld ws a0 7 1 (.ref f1)) (sz : Nat) : Met l yX7_readTest (ws_u yX7_readTest cX7_readTest 5 none) ({ frames := 29, cells := 0, slots := 0, locals := 696 }) (va_Pc [.ref a0, .int a1] (cPreS (dC, dI) aK aV tys ws sz)) (va_Qv (fun (w : va_W) => Ty κ tys B w ∧ Sm [(6, 1), (7, 2), (9, 2), (9, 3)] [38] κ ws w) (fun w t => cPost (dC, dI) tys w (va_A ws sz) t) (va_A ws sz)) 0 0 (va_A ws sz) := by
  refine Met.ofW (cc := cX7_readTest) (maxL := 5) (ret := none) (by decide) rfl ?_
  intro p e s m args below meth c s₁ B0 hml hv
  obtain ⟨rfl, ⟨hsz, hP, hK, hD0, hE⟩, hStr, hR⟩ := hv
  have hx := B0.exec
  have hb := B0.bytes
  have hr := B0.returns
  have hts0 := atoms_spec (ws := ws_u yX7_readTest cX7_readTest 5 none) B0.pre
  have hts : ∀ w ∈ gT, w.before _ s = true := fun w h => hts0 w (List.mem_cons_of_mem _ h)
  have hown : s.vm.findClass RX7 = some m.cls := findClass_of_methodNamed B0.named
  have hlocks := B0.notSynchronized
  subst hsz
  have hD := hD0.self (sz := s.heap.size)
  generalize hAe : va_A ws s.heap.size = A at hD hStr ⊢
  have hA : ∀ q : Nat, s.heap.size ≤ q → A q := fun q h => by rw [← hAe]; exact Or.inr h
  have hw : tW (dC, dI) tys κ B A s ws s.heap [] := ⟨hK, hP, hD, va_S.rf, hT⟩
  have hM : Sm [(6, 1), (7, 2), (9, 2), (9, 3)] [38] κ ws ws := Sm.rf
  clear hP hK hD hD0 hts0
  have hl := lv_entry ([.ref a0, .int a1]) (n := 5) (Nat.le_of_ble_eq_true rfl)
  rw [lg_entry_eq]
  generalize (lg_sl ([.ref a0, .int a1]) ++ List.replicate (5 - (lg_sl ([.ref a0, .int a1])).length) Slot.unset).toArray = ls at hl ⊢
  have hl : lv_has ls 5 [(0, .ref a0), (1, .int a1)] := hl
  refine t_start (fun QQ hQ => ?_)
  refine lv_iconst (v := 0) hx hb dX7_readTest_0 (by decide) ?_
  refine lv_istore_n (lv' := [(2, .int 0), (0, .ref a0), (1, .int a1)]) hx hb dX7_readTest_1 rfl hl (by decide) rfl (fun ls hl => ?_)
  refine lv_aload_n hx hb dX7_readTest_2 rfl (lv_at hl 1 rfl) ?_
  refine lv_iload_n hx hb dX7_readTest_3 rfl (lv_at hl 2 rfl) ?_
  refine t_callv (va_runV (As := [.int a1]) (rest := []) ⟨hx, hb, hml, hown, hts⟩ (t_X7_readFact_0 l dC dI tys κ B ws hw.2.2.2.2 aK aV a0 k_a0 a1 (by omega) (by omega) f0 k_f0 f_a0_X7_0 f1 k_f1 f_a0_X7_1 s.heap.size) (cwV 1 hts (gUV tw_683 tw_685 ts_0_13 tw_5 tw_686) rfl rfl rfl (by decide +kernel) ⟨(Nat.le_of_ble_eq_true rfl), (Nat.le_of_ble_eq_true rfl)⟩) ⟨cPreS.blind, t_recv hw (ci := 7) k_a0 rfl rfl, cPreS.use hw.2.1 hw.1 hw.2.2.1 hE hStr hR hw.2.2.2.1 (hw.free hA)⟩ rfl rfl hl.1 rfl (lv_room (Nat.le_of_ble_eq_true rfl)) dX7_readTest_4 ⟨(Nat.le_of_ble_eq_true rfl), (Nat.le_of_ble_eq_true rfl)⟩) hw hA (fun _ h => h.1) (fun w_1 H locs hp hw => ?_)
  obtain ⟨_, hm⟩ := hp
  have hM := hM.trans hm (by decide) (by decide)
  have f_a0_X7_0 := hm.1 _ _ _ _ f_a0_X7_0 (by decide)
  have f_a0_X7_1 := hm.1 _ _ _ _ f_a0_X7_1 (by decide)
  refine lv_iconst (v := 0) hx hb dX7_readTest_7 (by decide) ?_
  refine lv_istore_n (lv' := [(3, .int 0), (2, .int 0), (0, .ref a0), (1, .int a1)]) hx hb dX7_readTest_8 rfl hl (by decide) rfl (fun ls hl => ?_)
  have J9 : ∀ (n : Nat) (H : Heap) (locs : List Loc) (ls : Array Slot), (∃ (w9 : va_W) (p9_l2 : Int32) (p9_l3 : Int32), tW (dC, dI) tys κ B A s w9 H locs ∧ Sm [(6, 1), (7, 2), (9, 2), (9, 3)] [38] κ ws w9 ∧ 0 ≤ p9_l2.toInt ∧ p9_l2.toInt ≤ 1 ∧ 0 ≤ p9_l3.toInt ∧ p9_l3.toInt ≤ 401 ∧ fld w9 a0 7 0 (.ref f0) ∧ fld w9 a0 7 1 (.ref f1) ∧ lv_has ls 5 [(0, .ref a0), (1, .int a1), (2, .int p9_l2), (3, .int p9_l3)] ∧ (401 - p9_l3.toInt).toNat = n) → W p l e (headSpec (ws_u yX7_readTest cX7_readTest 5 none) ({ frames := 29, cells := 0, slots := 0, locals := 696 })).room s m ([.ref a0, .int a1] : List Value).toArray below meth c H locs 0 0 QQ (F0 m 9 ls []) := by
    refine loopT _ ?_
    intro n_9 H locs ls hI ih_9
    obtain ⟨w9, p9_l2, p9_l3, hw, hM, l_p9_l2, h_p9_l2, l_p9_l3, h_p9_l3, f_a0_X7_0, f_a0_X7_1, hl, hn_9⟩ := hI
    refine lv_iload_n hx hb dX7_readTest_9 rfl (lv_at hl 3 rfl) ?_
    refine lv_sipush (v := 400) hx hb dX7_readTest_10 (by decide) ?_
    have J96 : ∀ (H : Heap) (locs : List Loc) (ls : Array Slot) (w96 : va_W), tW (dC, dI) tys κ B A s w96 H locs → Sm [(6, 1), (7, 2), (9, 2), (9, 3)] [38] κ ws w96 → fld w96 a0 7 0 (.ref f0) → fld w96 a0 7 1 (.ref f1) → lv_has ls 5 [(0, .ref a0), (1, .int a1), (2, .int p9_l2), (3, .int p9_l3)] → W p l e (headSpec (ws_u yX7_readTest cX7_readTest 5 none) ({ frames := 29, cells := 0, slots := 0, locals := 696 })).room s m ([.ref a0, .int a1] : List Value).toArray below meth c H locs 0 0 QQ (F0 m 96 ls []) := by
      intro H locs ls w96 hw hM f_a0_X7_0 f_a0_X7_1 hl
      refine lv_iload_n hx hb dX7_readTest_96 rfl (lv_at hl 2 rfl) ?_
      refine lv_if_eq (tgt := 109) hx hb dX7_readTest_97 (by decide) (fun c_97 => ?_) (fun c_97 => ?_)
      · simp only [fa_lt, fa_le, fa_eq, li_0] at c_97
        rw [hQ]
        refine W.widen (k := 0) (n := 0) (Nat.le_refl _) (Nat.le_refl _) ?_
        exact W.vret hx hb hr (fun t ht hW => ⟨⟨w96, rfl, ⟨hw.2.2.2.2, hM⟩, by rw [ht]; exact hw.2.1, va_K.moved hW.alike hw.1, hw.2.2.1⟩, hw.2.2.2.1.F ht⟩) hw.2.2.2.1.2.2 dX7_readTest_109
      · simp only [fa_lt, fa_le, fa_eq, li_0] at c_97
        refine lv_aload_n hx hb dX7_readTest_100 rfl (lv_at hl 0 rfl) ?_
        refine t_getk (ci := 7) (C := RX7) (T := TX7) (N := 3) hx hb hts iX7 hown hw rfl 1 (by decide) (hts _ tw_167) (fun _ h9 => h9) dX7_readTest_101 f_a0_X7_1 ?_
        refine lv_bipush (v := (-23)) hx hb dX7_readTest_104 (by decide) ?_
        refine t_callv (va_runV (As := [.int (-23)]) (rest := []) ⟨hx, hb, hml, hown, hts⟩ (t_X6_add l dC dI tys κ B w96 hw.2.2.2.2 f1 k_f1 (-23) H.size) (cwV 1 hts (gUV tw_660 tw_661 tw_662 tw_6 tw_663) rfl rfl rfl (by decide +kernel) ⟨(Nat.le_of_ble_eq_true rfl), (Nat.le_of_ble_eq_true rfl)⟩) ⟨cPre.blind, t_recv hw (ci := 6) k_f1 rfl rfl, cPre.use hw.2.1 hw.1 hw.2.2.1 hE⟩ rfl rfl hl.1 rfl (lv_room (Nat.le_of_ble_eq_true rfl)) dX7_readTest_106 ⟨(Nat.le_of_ble_eq_true rfl), (Nat.le_of_ble_eq_true rfl)⟩) hw hA (fun _ h => h.1) (fun w_2 H locs hp hw => ?_)
        obtain ⟨_, hm⟩ := hp
        have hM := hM.trans hm (by decide) (by decide)
        have f_a0_X7_0 := hm.1 _ _ _ _ f_a0_X7_0 (by decide)
        have f_a0_X7_1 := hm.1 _ _ _ _ f_a0_X7_1 (by decide)
        rw [hQ]
        refine W.widen (k := 0) (n := 0) (Nat.le_refl _) (Nat.le_refl _) ?_
        exact W.vret hx hb hr (fun t ht hW => ⟨⟨w_2, rfl, ⟨hw.2.2.2.2, hM⟩, by rw [ht]; exact hw.2.1, va_K.moved hW.alike hw.1, hw.2.2.1⟩, hw.2.2.2.1.F ht⟩) hw.2.2.2.1.2.2 dX7_readTest_109
    refine lv_icmp_ge (tgt := 96) hx hb dX7_readTest_13 (by decide) (fun c_13 => ?_) (fun c_13 => ?_)
    · simp only [fa_lt, fa_le, fa_eq, li_400] at c_13
      exact J96 _ _ _ w9 hw hM f_a0_X7_0 f_a0_X7_1 (lv_sub hl [0, 1, 2, 3] rfl)
    · simp only [fa_lt, fa_le, fa_eq, li_400] at c_13
      refine lv_aload_n hx hb dX7_readTest_16 rfl (lv_at hl 0 rfl) ?_
      refine t_getk (ci := 7) (C := RX7) (T := TX7) (N := 3) hx hb hts iX7 hown hw rfl 0 (by decide) (hts _ tw_166) (fun _ h9 => h9) dX7_readTest_17 f_a0_X7_0 ?_
      refine va_ldcS hx hb hown hR.2.1 dX7_readTest_20 ?_
      refine t_calli (va_runV (As := [.ref (aK 1)]) (rest := []) ⟨hx, hb, hml, hown, hts⟩ (t_X9_takeWord l dC dI tys κ B w9 hw.2.2.2.2 aK aV f0 k_f0 1 (by decide) H.size) (cwV 1 hts (gUV tw_643 tw_506 tw_507 tw_2 tw_508) rfl rfl rfl (by decide +kernel) ⟨(Nat.le_of_ble_eq_true rfl), (Nat.le_of_ble_eq_true rfl)⟩) ⟨cPreS.blind, t_recv hw (ci := 9) k_f0 rfl rfl, cPreS.use hw.2.1 hw.1 hw.2.2.1 hE hStr hR hw.2.2.2.1 (hw.free hA)⟩ rfl rfl hl.1 rfl (lv_room (Nat.le_of_ble_eq_true rfl)) dX7_readTest_22 ⟨(Nat.le_of_ble_eq_true rfl), (Nat.le_of_ble_eq_true rfl)⟩) hw hA (fun _ _ h => h.1) (fun v22 w_3 H locs hp hw => ?_)
      obtain ⟨_, hm⟩ := hp
      have l_v22 := i32_lo v22
      have h_v22 := i32_hi v22
      have hM := hM.trans hm (by decide) (by decide)
      have f_a0_X7_0 := hm.1 _ _ _ _ f_a0_X7_0 (by decide)
      have f_a0_X7_1 := hm.1 _ _ _ _ f_a0_X7_1 (by decide)
      refine lv_istore (lv' := [(4, .int v22), (0, .ref a0), (1, .int a1), (2, .int p9_l2), (3, .int p9_l3)]) hx hb dX7_readTest_25 hl (by decide) rfl (fun ls hl => ?_)
      refine lv_iload hx hb dX7_readTest_27 (lv_at hl 0 rfl) ?_
      refine lv_iconst (v := (-1)) hx hb dX7_readTest_29 (by decide) ?_
      refine lv_icmp_ne (tgt := 36) hx hb dX7_readTest_30 (by decide) (fun c_30 => ?_) (fun c_30 => ?_)
      · simp only [fa_lt, fa_le, fa_eq, li_m1] at c_30
        refine lv_iload hx hb dX7_readTest_36 (lv_at hl 0 rfl) ?_
        refine lv_iconst (v := 1) hx hb dX7_readTest_38 (by decide) ?_
        have J55 : ∀ (H : Heap) (locs : List Loc) (ls : Array Slot) (w55 : va_W), tW (dC, dI) tys κ B A s w55 H locs → Sm [(6, 1), (7, 2), (9, 2), (9, 3)] [38] κ ws w55 → fld w55 a0 7 0 (.ref f0) → fld w55 a0 7 1 (.ref f1) → lv_has ls 5 [(0, .ref a0), (1, .int a1), (2, .int p9_l2), (3, .int p9_l3), (4, .int v22)] → W p l e (headSpec (ws_u yX7_readTest cX7_readTest 5 none) ({ frames := 29, cells := 0, slots := 0, locals := 696 })).room s m ([.ref a0, .int a1] : List Value).toArray below meth c H locs 0 0 QQ (F0 m 55 ls []) := by
          intro H locs ls w55 hw hM f_a0_X7_0 f_a0_X7_1 hl
          refine lv_iload_n hx hb dX7_readTest_55 rfl (lv_at hl 2 rfl) ?_
          have J70 : ∀ (H : Heap) (locs : List Loc) (ls : Array Slot) (w70 : va_W) (p70_s0 : Int32), tW (dC, dI) tys κ B A s w70 H locs → Sm [(6, 1), (7, 2), (9, 2), (9, 3)] [38] κ ws w70 → 0 ≤ p70_s0.toInt → p70_s0.toInt ≤ 1 → fld w70 a0 7 0 (.ref f0) → fld w70 a0 7 1 (.ref f1) → lv_has ls 5 [(0, .ref a0), (1, .int a1), (2, .int p9_l2), (3, .int p9_l3), (4, .int v22)] → W p l e (headSpec (ws_u yX7_readTest cX7_readTest 5 none) ({ frames := 29, cells := 0, slots := 0, locals := 696 })).room s m ([.ref a0, .int a1] : List Value).toArray below meth c H locs 0 0 QQ (F0 m 70 ls [.int p70_s0]) := by
            intro H locs ls w70 p70_s0 hw hM l_p70_s0 h_p70_s0 f_a0_X7_0 f_a0_X7_1 hl
            refine lv_istore_n (lv' := [(2, .int p70_s0), (0, .ref a0), (1, .int a1), (3, .int p9_l3), (4, .int v22)]) hx hb dX7_readTest_70 rfl hl (by decide) rfl (fun ls hl => ?_)
            refine lv_aload_n hx hb dX7_readTest_71 rfl (lv_at hl 1 rfl) ?_
            refine lv_iload_n hx hb dX7_readTest_72 rfl (lv_at hl 2 rfl) ?_
            refine t_callv (va_runV (As := [.int a1]) (rest := []) ⟨hx, hb, hml, hown, hts⟩ (t_X7_readFact_0 l dC dI tys κ B w70 hw.2.2.2.2 aK aV a0 k_a0 a1 (by omega) (by omega) f0 k_f0 f_a0_X7_0 f1 k_f1 f_a0_X7_1 H.size) (cwV 1 hts (gUV tw_683 tw_685 ts_0_13 tw_5 tw_686) rfl rfl rfl (by decide +kernel) ⟨(Nat.le_of_ble_eq_true rfl), (Nat.le_of_ble_eq_true rfl)⟩) ⟨cPreS.blind, t_recv hw (ci := 7) k_a0 rfl rfl, cPreS.use hw.2.1 hw.1 hw.2.2.1 hE hStr hR hw.2.2.2.1 (hw.free hA)⟩ rfl rfl hl.1 rfl (lv_room (Nat.le_of_ble_eq_true rfl)) dX7_readTest_73 ⟨(Nat.le_of_ble_eq_true rfl), (Nat.le_of_ble_eq_true rfl)⟩) hw hA (fun _ h => h.1) (fun w_4 H locs hp hw => ?_)
            obtain ⟨_, hm⟩ := hp
            have hM := hM.trans hm (by decide) (by decide)
            have f_a0_X7_0 := hm.1 _ _ _ _ f_a0_X7_0 (by decide)
            have f_a0_X7_1 := hm.1 _ _ _ _ f_a0_X7_1 (by decide)
            refine lv_iload hx hb dX7_readTest_76 (lv_at hl 4 rfl) ?_
            have J90 : ∀ (H : Heap) (locs : List Loc) (ls : Array Slot) (w90 : va_W), tW (dC, dI) tys κ B A s w90 H locs → Sm [(6, 1), (7, 2), (9, 2), (9, 3)] [38] κ ws w90 → fld w90 a0 7 0 (.ref f0) → fld w90 a0 7 1 (.ref f1) → lv_has ls 5 [(0, .ref a0), (1, .int a1), (2, .int p70_s0), (3, .int p9_l3), (4, .int v22)] → W p l e (headSpec (ws_u yX7_readTest cX7_readTest 5 none) ({ frames := 29, cells := 0, slots := 0, locals := 696 })).room s m ([.ref a0, .int a1] : List Value).toArray below meth c H locs 0 0 QQ (F0 m 90 ls []) := by
              intro H locs ls w90 hw hM f_a0_X7_0 f_a0_X7_1 hl
              obtain ⟨v90, e_v90⟩ : ∃ y : Int32, y = p9_l3 + 1 := ⟨_, rfl⟩
              refine lv_iinc (v := v90) (lv' := [(3, .int v90), (0, .ref a0), (1, .int a1), (2, .int p70_s0), (4, .int v22)]) hx hb dX7_readTest_90 hl (k := 3) rfl e_v90.symm (by decide) rfl (fun ls hl => ?_)
              have e_v90 : v90.toInt = p9_l3.toInt + 1 := ad_i e_v90 rfl li_1 (by omega) (by omega)
              refine lv_goto (tgt := 9) hx hb dX7_readTest_93 (by decide) ?_
              exact ih_9 _ _ _ _ (by omega) ⟨w90, p70_s0, v90, hw, hM, (by omega), (by omega), (by omega), (by omega), f_a0_X7_0, f_a0_X7_1, (lv_sub hl [1, 2, 3, 0] rfl), rfl⟩
            refine lv_if_ne (tgt := 90) hx hb dX7_readTest_78 (by decide) (fun c_78 => ?_) (fun c_78 => ?_)
            · simp only [fa_lt, fa_le, fa_eq, li_0] at c_78
              exact J90 _ _ _ w_4 hw hM f_a0_X7_0 f_a0_X7_1 (lv_sub hl [1, 2, 0, 3, 4] rfl)
            · simp only [fa_lt, fa_le, fa_eq, li_0] at c_78
              refine lv_aload_n hx hb dX7_readTest_81 rfl (lv_at hl 1 rfl) ?_
              refine t_getk (ci := 7) (C := RX7) (T := TX7) (N := 3) hx hb hts iX7 hown hw rfl 1 (by decide) (hts _ tw_167) (fun _ h9 => h9) dX7_readTest_82 f_a0_X7_1 ?_
              refine lv_bipush (v := (-22)) hx hb dX7_readTest_85 (by decide) ?_
              refine t_callv (va_runV (As := [.int (-22)]) (rest := []) ⟨hx, hb, hml, hown, hts⟩ (t_X6_add l dC dI tys κ B w_4 hw.2.2.2.2 f1 k_f1 (-22) H.size) (cwV 1 hts (gUV tw_660 tw_661 tw_662 tw_6 tw_663) rfl rfl rfl (by decide +kernel) ⟨(Nat.le_of_ble_eq_true rfl), (Nat.le_of_ble_eq_true rfl)⟩) ⟨cPre.blind, t_recv hw (ci := 6) k_f1 rfl rfl, cPre.use hw.2.1 hw.1 hw.2.2.1 hE⟩ rfl rfl hl.1 rfl (lv_room (Nat.le_of_ble_eq_true rfl)) dX7_readTest_87 ⟨(Nat.le_of_ble_eq_true rfl), (Nat.le_of_ble_eq_true rfl)⟩) hw hA (fun _ h => h.1) (fun w_5 H locs hp hw => ?_)
              obtain ⟨_, hm⟩ := hp
              have hM := hM.trans hm (by decide) (by decide)
              have f_a0_X7_0 := hm.1 _ _ _ _ f_a0_X7_0 (by decide)
              have f_a0_X7_1 := hm.1 _ _ _ _ f_a0_X7_1 (by decide)
              exact J90 _ _ _ w_5 hw hM f_a0_X7_0 f_a0_X7_1 (lv_sub hl [1, 2, 0, 3, 4] rfl)
          have J65 : ∀ (H : Heap) (locs : List Loc) (ls : Array Slot) (w65 : va_W), tW (dC, dI) tys κ B A s w65 H locs → Sm [(6, 1), (7, 2), (9, 2), (9, 3)] [38] κ ws w65 → fld w65 a0 7 0 (.ref f0) → fld w65 a0 7 1 (.ref f1) → lv_has ls 5 [(0, .ref a0), (1, .int a1), (2, .int p9_l2), (3, .int p9_l3), (4, .int v22)] → W p l e (headSpec (ws_u yX7_readTest cX7_readTest 5 none) ({ frames := 29, cells := 0, slots := 0, locals := 696 })).room s m ([.ref a0, .int a1] : List Value).toArray below meth c H locs 0 0 QQ (F0 m 65 ls []) := by
            intro H locs ls w65 hw hM f_a0_X7_0 f_a0_X7_1 hl
            refine lv_iconst (v := 1) hx hb dX7_readTest_65 (by decide) ?_
            refine lv_goto (tgt := 70) hx hb dX7_readTest_66 (by decide) ?_
            exact J70 _ _ _ w65 1 hw hM (by decide) (by decide) f_a0_X7_0 f_a0_X7_1 (lv_sub hl [0, 1, 2, 3, 4] rfl)
          refine lv_if_ne (tgt := 65) hx hb dX7_readTest_56 (by decide) (fun c_56 => ?_) (fun c_56 => ?_)
          · simp only [fa_lt, fa_le, fa_eq, li_0] at c_56
            exact J65 _ _ _ w55 hw hM f_a0_X7_0 f_a0_X7_1 (lv_sub hl [0, 1, 2, 3, 4] rfl)
          · simp only [fa_lt, fa_le, fa_eq, li_0] at c_56
            refine lv_iload hx hb dX7_readTest_59 (lv_at hl 4 rfl) ?_
            refine lv_iconst (v := 1) hx hb dX7_readTest_61 (by decide) ?_
            refine lv_icmp_ne (tgt := 69) hx hb dX7_readTest_62 (by decide) (fun c_62 => ?_) (fun c_62 => ?_)
            · simp only [fa_lt, fa_le, fa_eq, li_1] at c_62
              refine lv_iconst (v := 0) hx hb dX7_readTest_69 (by decide) ?_
              exact J70 _ _ _ w55 0 hw hM (by decide) (by decide) f_a0_X7_0 f_a0_X7_1 (lv_sub hl [0, 1, 2, 3, 4] rfl)
            · simp only [fa_lt, fa_le, fa_eq, li_1] at c_62
              exact J65 _ _ _ w55 hw hM f_a0_X7_0 f_a0_X7_1 (lv_sub hl [0, 1, 2, 3, 4] rfl)
        refine lv_icmp_ne (tgt := 55) hx hb dX7_readTest_39 (by decide) (fun c_39 => ?_) (fun c_39 => ?_)
        · simp only [fa_lt, fa_le, fa_eq, li_1] at c_39
          exact J55 _ _ _ w_3 hw hM f_a0_X7_0 f_a0_X7_1 (lv_sub hl [1, 2, 3, 4, 0] rfl)
        · simp only [fa_lt, fa_le, fa_eq, li_1] at c_39
          refine lv_iload_n hx hb dX7_readTest_42 rfl (lv_at hl 3 rfl) ?_
          refine lv_if_eq (tgt := 55) hx hb dX7_readTest_43 (by decide) (fun c_43 => ?_) (fun c_43 => ?_)
          · simp only [fa_lt, fa_le, fa_eq, li_0] at c_43
            exact J55 _ _ _ w_3 hw hM f_a0_X7_0 f_a0_X7_1 (lv_sub hl [1, 2, 3, 4, 0] rfl)
          · simp only [fa_lt, fa_le, fa_eq, li_0] at c_43
            refine lv_aload_n hx hb dX7_readTest_46 rfl (lv_at hl 1 rfl) ?_
            refine t_getk (ci := 7) (C := RX7) (T := TX7) (N := 3) hx hb hts iX7 hown hw rfl 1 (by decide) (hts _ tw_167) (fun _ h9 => h9) dX7_readTest_47 f_a0_X7_1 ?_
            refine lv_bipush (v := (-23)) hx hb dX7_readTest_50 (by decide) ?_
            refine t_callv (va_runV (As := [.int (-23)]) (rest := []) ⟨hx, hb, hml, hown, hts⟩ (t_X6_add l dC dI tys κ B w_3 hw.2.2.2.2 f1 k_f1 (-23) H.size) (cwV 1 hts (gUV tw_660 tw_661 tw_662 tw_6 tw_663) rfl rfl rfl (by decide +kernel) ⟨(Nat.le_of_ble_eq_true rfl), (Nat.le_of_ble_eq_true rfl)⟩) ⟨cPre.blind, t_recv hw (ci := 6) k_f1 rfl rfl, cPre.use hw.2.1 hw.1 hw.2.2.1 hE⟩ rfl rfl hl.1 rfl (lv_room (Nat.le_of_ble_eq_true rfl)) dX7_readTest_52 ⟨(Nat.le_of_ble_eq_true rfl), (Nat.le_of_ble_eq_true rfl)⟩) hw hA (fun _ h => h.1) (fun w_6 H locs hp hw => ?_)
            obtain ⟨_, hm⟩ := hp
            have hM := hM.trans hm (by decide) (by decide)
            have f_a0_X7_0 := hm.1 _ _ _ _ f_a0_X7_0 (by decide)
            have f_a0_X7_1 := hm.1 _ _ _ _ f_a0_X7_1 (by decide)
            exact J55 _ _ _ w_6 hw hM f_a0_X7_0 f_a0_X7_1 (lv_sub hl [1, 2, 3, 4, 0] rfl)
      · simp only [fa_lt, fa_le, fa_eq, li_m1] at c_30
        refine lv_goto (tgt := 96) hx hb dX7_readTest_33 (by decide) ?_
        exact J96 _ _ _ w_3 hw hM f_a0_X7_0 f_a0_X7_1 (lv_sub hl [1, 2, 3, 4] rfl)
  exact J9 _ _ _ _ ⟨w_1, 0, 0, hw, hM, (by decide), (by decide), (by decide), (by decide), f_a0_X7_0, f_a0_X7_1, (lv_sub hl [2, 3, 1, 0] rfl), rfl⟩
set_option maxHeartbeats 4000000 in
set_option maxRecDepth 100000 in
theorem t_X7_read (l : Launch) (dC : Nat → ClassId) (dI : Nat → Nat → Nat) (tys : List (ClassId × FieldType)) (κ : tK) (B : Nat) (ws : va_W) (hT : Ty κ tys B ws) (aK aV : Nat → Nat) (a0 : Nat) (k_a0 : κ a0 = some 7) (a1 : Nat) (k_a1 : κ a1 = some 9) (a2 : Nat) (k_a2 : κ a2 = some 6) (sz : Nat) : Met l yX7_read (ws_u yX7_read cX7_read 5 (some .boolean)) ({ frames := 30, cells := 0, slots := 0, locals := 720 }) (va_Pc [.ref a0, .ref a1, .ref a2] (cPreS (dC, dI) aK aV tys ws sz)) (va_Qi (fun (r : Int32) (w : va_W) => 0 ≤ r.toInt ∧ r.toInt ≤ 1 ∧ Ty κ tys B w ∧ Sm [(6, 1), (6, 5), (7, 0), (7, 1), (7, 2), (9, 2), (9, 3)] [38, 39, 40, 41] κ ws w) (fun w t => cPost (dC, dI) tys w (va_A ws sz) t) (va_A ws sz)) 0 0 (va_A ws sz) := by
  refine Met.ofW (cc := cX7_read) (maxL := 5) (ret := (some .boolean)) (by decide) rfl ?_
  intro p e s m args below meth c s₁ B0 hml hv
  obtain ⟨rfl, ⟨hsz, hP, hK, hD0, hE⟩, hStr, hR⟩ := hv
  have hx := B0.exec
  have hb := B0.bytes
  have hr := B0.returns
  have hts0 := atoms_spec (ws := ws_u yX7_read cX7_read 5 (some .boolean)) B0.pre
  have hts : ∀ w ∈ gT, w.before _ s = true := fun w h => hts0 w (List.mem_cons_of_mem _ h)
  have hown : s.vm.findClass RX7 = some m.cls := findClass_of_methodNamed B0.named
  have hlocks := B0.notSynchronized
  subst hsz
  have hD := hD0.self (sz := s.heap.size)
  generalize hAe : va_A ws s.heap.size = A at hD hStr ⊢
  have hA : ∀ q : Nat, s.heap.size ≤ q → A q := fun q h => by rw [← hAe]; exact Or.inr h
  have hw : tW (dC, dI) tys κ B A s ws s.heap [] := ⟨hK, hP, hD, va_S.rf, hT⟩
  have hM : Sm [(6, 1), (6, 5), (7, 0), (7, 1), (7, 2), (9, 2), (9, 3)] [38, 39, 40, 41] κ ws ws := Sm.rf
  clear hP hK hD hD0 hts0
  have hl := lv_entry ([.ref a0, .ref a1, .ref a2]) (n := 5) (Nat.le_of_ble_eq_true rfl)
  rw [lg_entry_eq]
  generalize (lg_sl ([.ref a0, .ref a1, .ref a2]) ++ List.replicate (5 - (lg_sl ([.ref a0, .ref a1, .ref a2])).length) Slot.unset).toArray = ls at hl ⊢
  have hl : lv_has ls 5 [(0, .ref a0), (1, .ref a1), (2, .ref a2)] := hl
  refine t_start (fun QQ hQ => ?_)
  refine lv_aload_n hx hb dX7_read_0 rfl (lv_at hl 0 rfl) ?_
  refine lv_aload_n hx hb dX7_read_1 rfl (lv_at hl 1 rfl) ?_
  refine t_put (ci := 7) (C := RX7) (T := TX7) (N := 3) (v := .ref a1) hx hb hts iX7 tyX7 tyX7_ok nmX7 hown hw k_a0 rfl rfl rfl 0 (by decide) (hts _ tw_166) (fun _ h9 => h9) rfl (tyX7_ok 0 (by decide)) rfl rfl (okV.refN (k := 9) rfl k_a1) dX7_read_2 (fun w_1 H locs hw u => ?_)
  have hM := hM.up1 u (by decide)
  have f_a0_X7_0 := u.2.2
  refine lv_aload_n hx hb dX7_read_5 rfl (lv_at hl 0 rfl) ?_
  refine lv_aload_n hx hb dX7_read_6 rfl (lv_at hl 2 rfl) ?_
  refine t_put (ci := 7) (C := RX7) (T := TX7) (N := 3) (v := .ref a2) hx hb hts iX7 tyX7 tyX7_ok nmX7 hown hw k_a0 rfl rfl rfl 1 (by decide) (hts _ tw_167) (fun _ h9 => h9) rfl (tyX7_ok 1 (by decide)) rfl rfl (okV.refN (k := 6) rfl k_a2) dX7_read_7 (fun w_2 H locs hw u => ?_)
  have hM := hM.up1 u (by decide)
  have f_a0_X7_0 := u.1 _ _ _ _ f_a0_X7_0 (Or.inr (Or.inr (by decide)))
  have f_a0_X7_1 := u.2.2
  refine lv_aload_n hx hb dX7_read_10 rfl (lv_at hl 0 rfl) ?_
  refine lv_iconst (v := 0) hx hb dX7_read_11 (by decide) ?_
  refine t_put (ci := 7) (C := RX7) (T := TX7) (N := 3) (v := .int 0) hx hb hts iX7 tyX7 tyX7_ok nmX7 hown hw k_a0 rfl rfl rfl 2 (by decide) (hts _ tw_168) (fun _ h9 => h9) rfl (tyX7_ok 2 (by decide)) rfl rfl (okV.int rfl (by decide) (by decide)) dX7_read_12 (fun w_3 H locs hw u => ?_)
  have hM := hM.up1 u (by decide)
  have f_a0_X7_0 := u.1 _ _ _ _ f_a0_X7_0 (Or.inr (Or.inr (by decide)))
  have f_a0_X7_1 := u.1 _ _ _ _ f_a0_X7_1 (Or.inr (Or.inr (by decide)))
  have f_a0_X7_2 := u.2.2
  refine lv_aload_n hx hb dX7_read_15 rfl (lv_at hl 0 rfl) ?_
  refine t_getk (ci := 7) (C := RX7) (T := TX7) (N := 3) hx hb hts iX7 hown hw rfl 1 (by decide) (hts _ tw_167) (fun _ h9 => h9) dX7_read_16 f_a0_X7_1 ?_
  refine t_callv (va_runV (As := []) (rest := []) ⟨hx, hb, hml, hown, hts⟩ (t_X6_clear l dC dI tys κ B w_3 hw.2.2.2.2 a2 k_a2 H.size) (cwV 0 hts (gUV tw_637 tw_638 tw_639 tw_6 tw_640) rfl rfl rfl (by decide +kernel) ⟨(Nat.le_of_ble_eq_true rfl), (Nat.le_of_ble_eq_true rfl)⟩) ⟨cPre.blind, t_recv hw (ci := 6) k_a2 rfl rfl, cPre.use hw.2.1 hw.1 hw.2.2.1 hE⟩ rfl rfl hl.1 rfl (lv_room (Nat.le_of_ble_eq_true rfl)) dX7_read_19 ⟨(Nat.le_of_ble_eq_true rfl), (Nat.le_of_ble_eq_true rfl)⟩) hw hA (fun _ h => h.1) (fun w_4 H locs hp hw => ?_)
  obtain ⟨_, hm⟩ := hp
  have hM := hM.trans hm (by decide) (by decide)
  have f_a0_X7_0 := hm.1 _ _ _ _ f_a0_X7_0 (by decide)
  have f_a0_X7_1 := hm.1 _ _ _ _ f_a0_X7_1 (by decide)
  have f_a0_X7_2 := hm.1 _ _ _ _ f_a0_X7_2 (by decide)
  refine lv_aload_n hx hb dX7_read_22 rfl (lv_at hl 0 rfl) ?_
  refine t_getk (ci := 7) (C := RX7) (T := TX7) (N := 3) hx hb hts iX7 hown hw rfl 0 (by decide) (hts _ tw_166) (fun _ h9 => h9) dX7_read_23 f_a0_X7_0 ?_
  refine t_callv (va_runV (As := []) (rest := []) ⟨hx, hb, hml, hown, hts⟩ (t_X9_startReading l dC dI tys κ B w_4 hw.2.2.2.2 a1 k_a1 H.size) (cwV 0 hts (gUV tw_641 tw_493 tw_494 tw_2 tw_495) rfl rfl rfl (by decide +kernel) ⟨(Nat.le_of_ble_eq_true rfl), (Nat.le_of_ble_eq_true rfl)⟩) ⟨cPre.blind, t_recv hw (ci := 9) k_a1 rfl rfl, cPre.use hw.2.1 hw.1 hw.2.2.1 hE⟩ rfl rfl hl.1 rfl (lv_room (Nat.le_of_ble_eq_true rfl)) dX7_read_26 ⟨(Nat.le_of_ble_eq_true rfl), (Nat.le_of_ble_eq_true rfl)⟩) hw hA (fun _ h => h.1) (fun w_5 H locs hp hw => ?_)
  obtain ⟨_, hm⟩ := hp
  have hM := hM.trans hm (by decide) (by decide)
  have f_a0_X7_0 := hm.1 _ _ _ _ f_a0_X7_0 (by decide)
  have f_a0_X7_1 := hm.1 _ _ _ _ f_a0_X7_1 (by decide)
  have f_a0_X7_2 := hm.1 _ _ _ _ f_a0_X7_2 (by decide)
  refine lv_iconst (v := 0) hx hb dX7_read_29 (by decide) ?_
  refine lv_istore_n (lv' := [(3, .int 0), (0, .ref a0), (1, .ref a1), (2, .ref a2)]) hx hb dX7_read_30 rfl hl (by decide) rfl (fun ls hl => ?_)
  have J31 : ∀ (n : Nat) (H : Heap) (locs : List Loc) (ls : Array Slot), (∃ (w31 : va_W) (p31_l3 : Int32), tW (dC, dI) tys κ B A s w31 H locs ∧ Sm [(6, 1), (6, 5), (7, 0), (7, 1), (7, 2), (9, 2), (9, 3)] [38, 39, 40, 41] κ ws w31 ∧ 0 ≤ p31_l3.toInt ∧ p31_l3.toInt ≤ 13 ∧ fld w31 a0 7 0 (.ref a1) ∧ fld w31 a0 7 1 (.ref a2) ∧ lv_has ls 5 [(0, .ref a0), (1, .ref a1), (2, .ref a2), (3, .int p31_l3)] ∧ (13 - p31_l3.toInt).toNat = n) → W p l e (headSpec (ws_u yX7_read cX7_read 5 (some .boolean)) ({ frames := 30, cells := 0, slots := 0, locals := 720 })).room s m ([.ref a0, .ref a1, .ref a2] : List Value).toArray below meth c H locs 0 0 QQ (F0 m 31 ls []) := by
    refine loopT _ ?_
    intro n_31 H locs ls hI ih_31
    obtain ⟨w31, p31_l3, hw, hM, l_p31_l3, h_p31_l3, f_a0_X7_0, f_a0_X7_1, hl, hn_31⟩ := hI
    refine lv_iload_n hx hb dX7_read_31 rfl (lv_at hl 3 rfl) ?_
    refine lv_bipush (v := 12) hx hb dX7_read_32 (by decide) ?_
    have J187 : ∀ (H : Heap) (locs : List Loc) (ls : Array Slot) (w187 : va_W), tW (dC, dI) tys κ B A s w187 H locs → Sm [(6, 1), (6, 5), (7, 0), (7, 1), (7, 2), (9, 2), (9, 3)] [38, 39, 40, 41] κ ws w187 → fld w187 a0 7 0 (.ref a1) → fld w187 a0 7 1 (.ref a2) → lv_has ls 5 [(0, .ref a0), (1, .ref a1), (2, .ref a2), (3, .int p31_l3)] → W p l e (headSpec (ws_u yX7_read cX7_read 5 (some .boolean)) ({ frames := 30, cells := 0, slots := 0, locals := 720 })).room s m ([.ref a0, .ref a1, .ref a2] : List Value).toArray below meth c H locs 0 0 QQ (F0 m 187 ls []) := by
      intro H locs ls w187 hw hM f_a0_X7_0 f_a0_X7_1 hl
      refine lv_aload_n hx hb dX7_read_187 rfl (lv_at hl 0 rfl) ?_
      refine t_getk (ci := 7) (C := RX7) (T := TX7) (N := 3) hx hb hts iX7 hown hw rfl 0 (by decide) (hts _ tw_166) (fun _ h9 => h9) dX7_read_188 f_a0_X7_0 ?_
      refine t_geti (ci := 9) (C := RX9) (T := TX9) (N := 4) hx hb hts iX9 hown hw k_a1 rfl rfl rfl 3 (by decide) (hts _ tw_43) (fun _ h9 => h9) dX7_read_191 rfl (fun v191 l_v191 h_v191 f_a1_X9_3 => ?_)
      have l_v191 : 0 ≤ v191.toInt := l_v191
      have h_v191 : v191.toInt ≤ 3205 := h_v191
      refine lv_if_ne (tgt := 201) hx hb dX7_read_194 (by decide) (fun c_194 => ?_) (fun c_194 => ?_)
      · simp only [fa_lt, fa_le, fa_eq, li_0] at c_194
        refine lv_iconst (v := 0) hx hb dX7_read_201 (by decide) ?_
        rw [hQ]
        refine W.widen (k := 0) (n := 0) (Nat.le_refl _) (Nat.le_refl _) ?_
        exact W.zret (v := 0) hx hb hr rfl (fun t ht hW => ⟨⟨0, w187, rfl, ⟨(by decide), (by decide), hw.2.2.2.2, hM⟩, by rw [ht]; exact hw.2.1, va_K.moved hW.alike hw.1, hw.2.2.1⟩, hw.2.2.2.1.F ht⟩) hw.2.2.2.1.2.2 dX7_read_202
      · simp only [fa_lt, fa_le, fa_eq, li_0] at c_194
        refine lv_iconst (v := 1) hx hb dX7_read_197 (by decide) ?_
        refine lv_goto (tgt := 202) hx hb dX7_read_198 (by decide) ?_
        rw [hQ]
        refine W.widen (k := 0) (n := 0) (Nat.le_refl _) (Nat.le_refl _) ?_
        exact W.zret (v := 1) hx hb hr rfl (fun t ht hW => ⟨⟨1, w187, rfl, ⟨(by decide), (by decide), hw.2.2.2.2, hM⟩, by rw [ht]; exact hw.2.1, va_K.moved hW.alike hw.1, hw.2.2.1⟩, hw.2.2.2.1.F ht⟩) hw.2.2.2.1.2.2 dX7_read_202
    refine lv_icmp_gt (tgt := 187) hx hb dX7_read_34 (by decide) (fun c_34 => ?_) (fun c_34 => ?_)
    · simp only [fa_lt, fa_le, fa_eq, li_12] at c_34
      exact J187 _ _ _ w31 hw hM f_a0_X7_0 f_a0_X7_1 (lv_sub hl [0, 1, 2, 3] rfl)
    · simp only [fa_lt, fa_le, fa_eq, li_12] at c_34
      refine lv_aload_n hx hb dX7_read_37 rfl (lv_at hl 0 rfl) ?_
      refine t_getk (ci := 7) (C := RX7) (T := TX7) (N := 3) hx hb hts iX7 hown hw rfl 0 (by decide) (hts _ tw_166) (fun _ h9 => h9) dX7_read_38 f_a0_X7_0 ?_
      refine t_geti (ci := 9) (C := RX9) (T := TX9) (N := 4) hx hb hts iX9 hown hw k_a1 rfl rfl rfl 2 (by decide) (hts _ tw_39) (fun _ h9 => h9) dX7_read_41 rfl (fun v41 l_v41 h_v41 f_a1_X9_2 => ?_)
      have l_v41 : 0 ≤ v41.toInt := l_v41
      have h_v41 : v41.toInt ≤ 400 := h_v41
      refine lv_istore (lv' := [(4, .int v41), (0, .ref a0), (1, .ref a1), (2, .ref a2), (3, .int p31_l3)]) hx hb dX7_read_44 hl (by decide) rfl (fun ls hl => ?_)
      refine lv_aload_n hx hb dX7_read_46 rfl (lv_at hl 1 rfl) ?_
      refine t_getk (ci := 7) (C := RX7) (T := TX7) (N := 3) hx hb hts iX7 hown hw rfl 0 (by decide) (hts _ tw_166) (fun _ h9 => h9) dX7_read_47 f_a0_X7_0 ?_
      refine va_ldcS hx hb hown hR.2.2.2.2.1 dX7_read_50 ?_
      refine t_calli (va_runV (As := [.ref (aK 4)]) (rest := []) ⟨hx, hb, hml, hown, hts⟩ (t_X9_takeWord l dC dI tys κ B w31 hw.2.2.2.2 aK aV a1 k_a1 4 (by decide) H.size) (cwV 1 hts (gUV tw_643 tw_506 tw_507 tw_2 tw_508) rfl rfl rfl (by decide +kernel) ⟨(Nat.le_of_ble_eq_true rfl), (Nat.le_of_ble_eq_true rfl)⟩) ⟨cPreS.blind, t_recv hw (ci := 9) k_a1 rfl rfl, cPreS.use hw.2.1 hw.1 hw.2.2.1 hE hStr hR hw.2.2.2.1 (hw.free hA)⟩ rfl rfl hl.1 rfl (lv_room (Nat.le_of_ble_eq_true rfl)) dX7_read_52 ⟨(Nat.le_of_ble_eq_true rfl), (Nat.le_of_ble_eq_true rfl)⟩) hw hA (fun _ _ h => h.1) (fun v52 w_6 H locs hp hw => ?_)
      obtain ⟨_, hm⟩ := hp
      have l_v52 := i32_lo v52
      have h_v52 := i32_hi v52
      have hM := hM.trans hm (by decide) (by decide)
      have f_a0_X7_0 := hm.1 _ _ _ _ f_a0_X7_0 (by decide)
      have f_a0_X7_1 := hm.1 _ _ _ _ f_a0_X7_1 (by decide)
      refine lv_iconst (v := (-1)) hx hb dX7_read_55 (by decide) ?_
      have J88 : ∀ (H : Heap) (locs : List Loc) (ls : Array Slot) (w88 : va_W), tW (dC, dI) tys κ B A s w88 H locs → Sm [(6, 1), (6, 5), (7, 0), (7, 1), (7, 2), (9, 2), (9, 3)] [38, 39, 40, 41] κ ws w88 → fld w88 a0 7 0 (.ref a1) → fld w88 a0 7 1 (.ref a2) → lv_has ls 5 [(0, .ref a0), (1, .ref a1), (2, .ref a2), (3, .int p31_l3), (4, .int v41)] → W p l e (headSpec (ws_u yX7_read cX7_read 5 (some .boolean)) ({ frames := 30, cells := 0, slots := 0, locals := 720 })).room s m ([.ref a0, .ref a1, .ref a2] : List Value).toArray below meth c H locs 0 0 QQ (F0 m 88 ls []) := by
        intro H locs ls w88 hw hM f_a0_X7_0 f_a0_X7_1 hl
        refine lv_aload_n hx hb dX7_read_88 rfl (lv_at hl 0 rfl) ?_
        refine t_getk (ci := 7) (C := RX7) (T := TX7) (N := 3) hx hb hts iX7 hown hw rfl 1 (by decide) (hts _ tw_167) (fun _ h9 => h9) dX7_read_89 f_a0_X7_1 ?_
        refine t_callv (va_runV (As := []) (rest := []) ⟨hx, hb, hml, hown, hts⟩ (t_X6_beginClause l dC dI tys κ B w88 hw.2.2.2.2 a2 k_a2 H.size) (cwV 0 hts (gUV tw_645 tw_646 tw_647 tw_6 tw_648) rfl rfl rfl (by decide +kernel) ⟨(Nat.le_of_ble_eq_true rfl), (Nat.le_of_ble_eq_true rfl)⟩) ⟨cPre.blind, t_recv hw (ci := 6) k_a2 rfl rfl, cPre.use hw.2.1 hw.1 hw.2.2.1 hE⟩ rfl rfl hl.1 rfl (lv_room (Nat.le_of_ble_eq_true rfl)) dX7_read_92 ⟨(Nat.le_of_ble_eq_true rfl), (Nat.le_of_ble_eq_true rfl)⟩) hw hA (fun _ h => h.1) (fun w_7 H locs hp hw => ?_)
        obtain ⟨_, hm⟩ := hp
        have hM := hM.trans hm (by decide) (by decide)
        have f_a0_X7_0 := hm.1 _ _ _ _ f_a0_X7_0 (by decide)
        have f_a0_X7_1 := hm.1 _ _ _ _ f_a0_X7_1 (by decide)
        refine lv_aload_n hx hb dX7_read_95 rfl (lv_at hl 0 rfl) ?_
        refine t_callv (va_runV (As := []) (rest := []) ⟨hx, hb, hml, hown, hts⟩ (t_X7_readSum l dC dI tys κ B w_7 hw.2.2.2.2 aK aV a0 k_a0 a1 k_a1 f_a0_X7_0 a2 k_a2 f_a0_X7_1 H.size) (cwV 0 hts (gUV tw_649 tw_651 ts_0_8 tw_5 tw_652) rfl rfl rfl (by decide +kernel) ⟨(Nat.le_of_ble_eq_true rfl), (Nat.le_of_ble_eq_true rfl)⟩) ⟨cPreS.blind, t_recv hw (ci := 7) k_a0 rfl rfl, cPreS.use hw.2.1 hw.1 hw.2.2.1 hE hStr hR hw.2.2.2.1 (hw.free hA)⟩ rfl rfl hl.1 rfl (lv_room (Nat.le_of_ble_eq_true rfl)) dX7_read_96 ⟨(Nat.le_of_ble_eq_true rfl), (Nat.le_of_ble_eq_true rfl)⟩) hw hA (fun _ h => h.1) (fun w_8 H locs hp hw => ?_)
        obtain ⟨_, hm⟩ := hp
        have hM := hM.trans hm (by decide) (by decide)
        have f_a0_X7_0 := hm.1 _ _ _ _ f_a0_X7_0 (by decide)
        have f_a0_X7_1 := hm.1 _ _ _ _ f_a0_X7_1 (by decide)
        refine lv_aload_n hx hb dX7_read_99 rfl (lv_at hl 0 rfl) ?_
        refine t_getk (ci := 7) (C := RX7) (T := TX7) (N := 3) hx hb hts iX7 hown hw rfl 1 (by decide) (hts _ tw_167) (fun _ h9 => h9) dX7_read_100 f_a0_X7_1 ?_
        refine t_callv (va_runV (As := []) (rest := []) ⟨hx, hb, hml, hown, hts⟩ (t_X6_beginTest l dC dI tys κ B w_8 hw.2.2.2.2 a2 k_a2 H.size) (cwV 0 hts (gUV tw_674 tw_675 tw_676 tw_6 tw_677) rfl rfl rfl (by decide +kernel) ⟨(Nat.le_of_ble_eq_true rfl), (Nat.le_of_ble_eq_true rfl)⟩) ⟨cPre.blind, t_recv hw (ci := 6) k_a2 rfl rfl, cPre.use hw.2.1 hw.1 hw.2.2.1 hE⟩ rfl rfl hl.1 rfl (lv_room (Nat.le_of_ble_eq_true rfl)) dX7_read_103 ⟨(Nat.le_of_ble_eq_true rfl), (Nat.le_of_ble_eq_true rfl)⟩) hw hA (fun _ h => h.1) (fun w_9 H locs hp hw => ?_)
        obtain ⟨_, hm⟩ := hp
        have hM := hM.trans hm (by decide) (by decide)
        have f_a0_X7_0 := hm.1 _ _ _ _ f_a0_X7_0 (by decide)
        have f_a0_X7_1 := hm.1 _ _ _ _ f_a0_X7_1 (by decide)
        refine lv_aload_n hx hb dX7_read_106 rfl (lv_at hl 0 rfl) ?_
        refine t_getk (ci := 7) (C := RX7) (T := TX7) (N := 3) hx hb hts iX7 hown hw rfl 0 (by decide) (hts _ tw_166) (fun _ h9 => h9) dX7_read_107 f_a0_X7_0 ?_
        refine va_ldcS hx hb hown hR.2.2.1 dX7_read_110 ?_
        refine t_calli (va_runV (As := [.ref (aK 2)]) (rest := []) ⟨hx, hb, hml, hown, hts⟩ (t_X9_takeWord l dC dI tys κ B w_9 hw.2.2.2.2 aK aV a1 k_a1 2 (by decide) H.size) (cwV 1 hts (gUV tw_643 tw_506 tw_507 tw_2 tw_508) rfl rfl rfl (by decide +kernel) ⟨(Nat.le_of_ble_eq_true rfl), (Nat.le_of_ble_eq_true rfl)⟩) ⟨cPreS.blind, t_recv hw (ci := 9) k_a1 rfl rfl, cPreS.use hw.2.1 hw.1 hw.2.2.1 hE hStr hR hw.2.2.2.1 (hw.free hA)⟩ rfl rfl hl.1 rfl (lv_room (Nat.le_of_ble_eq_true rfl)) dX7_read_112 ⟨(Nat.le_of_ble_eq_true rfl), (Nat.le_of_ble_eq_true rfl)⟩) hw hA (fun _ _ h => h.1) (fun v112 w_10 H locs hp hw => ?_)
        obtain ⟨_, hm⟩ := hp
        have l_v112 := i32_lo v112
        have h_v112 := i32_hi v112
        have hM := hM.trans hm (by decide) (by decide)
        have f_a0_X7_0 := hm.1 _ _ _ _ f_a0_X7_0 (by decide)
        have f_a0_X7_1 := hm.1 _ _ _ _ f_a0_X7_1 (by decide)
        refine lv_iconst (v := (-1)) hx hb dX7_read_115 (by decide) ?_
        have J124 : ∀ (H : Heap) (locs : List Loc) (ls : Array Slot) (w124 : va_W), tW (dC, dI) tys κ B A s w124 H locs → Sm [(6, 1), (6, 5), (7, 0), (7, 1), (7, 2), (9, 2), (9, 3)] [38, 39, 40, 41] κ ws w124 → fld w124 a0 7 0 (.ref a1) → fld w124 a0 7 1 (.ref a2) → lv_has ls 5 [(0, .ref a0), (1, .ref a1), (2, .ref a2), (3, .int p31_l3), (4, .int v41)] → W p l e (headSpec (ws_u yX7_read cX7_read 5 (some .boolean)) ({ frames := 30, cells := 0, slots := 0, locals := 720 })).room s m ([.ref a0, .ref a1, .ref a2] : List Value).toArray below meth c H locs 0 0 QQ (F0 m 124 ls []) := by
          intro H locs ls w124 hw hM f_a0_X7_0 f_a0_X7_1 hl
          refine lv_aload_n hx hb dX7_read_124 rfl (lv_at hl 0 rfl) ?_
          refine t_getk (ci := 7) (C := RX7) (T := TX7) (N := 3) hx hb hts iX7 hown hw rfl 1 (by decide) (hts _ tw_167) (fun _ h9 => h9) dX7_read_125 f_a0_X7_1 ?_
          refine t_callv (va_runV (As := []) (rest := []) ⟨hx, hb, hml, hown, hts⟩ (t_X6_endClause l dC dI tys κ B w124 hw.2.2.2.2 a2 k_a2 H.size) (cwV 0 hts (gUV tw_697 tw_698 tw_699 tw_6 tw_700) rfl rfl rfl (by decide +kernel) ⟨(Nat.le_of_ble_eq_true rfl), (Nat.le_of_ble_eq_true rfl)⟩) ⟨cPre.blind, t_recv hw (ci := 6) k_a2 rfl rfl, cPre.use hw.2.1 hw.1 hw.2.2.1 hE⟩ rfl rfl hl.1 rfl (lv_room (Nat.le_of_ble_eq_true rfl)) dX7_read_128 ⟨(Nat.le_of_ble_eq_true rfl), (Nat.le_of_ble_eq_true rfl)⟩) hw hA (fun _ h => h.1) (fun w_11 H locs hp hw => ?_)
          obtain ⟨_, hm⟩ := hp
          have hM := hM.trans hm (by decide) (by decide)
          have f_a0_X7_0 := hm.1 _ _ _ _ f_a0_X7_0 (by decide)
          have f_a0_X7_1 := hm.1 _ _ _ _ f_a0_X7_1 (by decide)
          refine lv_aload_n hx hb dX7_read_131 rfl (lv_at hl 0 rfl) ?_
          refine t_getk (ci := 7) (C := RX7) (T := TX7) (N := 3) hx hb hts iX7 hown hw rfl 0 (by decide) (hts _ tw_166) (fun _ h9 => h9) dX7_read_132 f_a0_X7_0 ?_
          refine t_geti (ci := 9) (C := RX9) (T := TX9) (N := 4) hx hb hts iX9 hown hw k_a1 rfl rfl rfl 3 (by decide) (hts _ tw_43) (fun _ h9 => h9) dX7_read_135 rfl (fun v135 l_v135 h_v135 f_a1_X9_3 => ?_)
          have l_v135 : 0 ≤ v135.toInt := l_v135
          have h_v135 : v135.toInt ≤ 3205 := h_v135
          refine lv_if_ne (tgt := 187) hx hb dX7_read_138 (by decide) (fun c_138 => ?_) (fun c_138 => ?_)
          · simp only [fa_lt, fa_le, fa_eq, li_0] at c_138
            exact J187 _ _ _ w_11 hw hM f_a0_X7_0 f_a0_X7_1 (lv_sub hl [0, 1, 2, 3] rfl)
          · simp only [fa_lt, fa_le, fa_eq, li_0] at c_138
            refine lv_aload_n hx hb dX7_read_141 rfl (lv_at hl 0 rfl) ?_
            refine t_getk (ci := 7) (C := RX7) (T := TX7) (N := 3) hx hb hts iX7 hown hw rfl 0 (by decide) (hts _ tw_166) (fun _ h9 => h9) dX7_read_142 f_a0_X7_0 ?_
            refine t_calli (va_runV (As := []) (rest := []) ⟨hx, hb, hml, hown, hts⟩ (t_X9_atEnd l dC dI tys κ B w_11 hw.2.2.2.2 a1 k_a1 H.size) (cwV 0 hts (gUV tw_701 tw_599 tw_600 tw_2 tw_601) rfl rfl rfl (by decide +kernel) ⟨(Nat.le_of_ble_eq_true rfl), (Nat.le_of_ble_eq_true rfl)⟩) ⟨cPre.blind, t_recv hw (ci := 9) k_a1 rfl rfl, cPre.use hw.2.1 hw.1 hw.2.2.1 hE⟩ rfl rfl hl.1 rfl (lv_room (Nat.le_of_ble_eq_true rfl)) dX7_read_145 ⟨(Nat.le_of_ble_eq_true rfl), (Nat.le_of_ble_eq_true rfl)⟩) hw hA (fun _ _ h => h.2.2.1) (fun v145 w_12 H locs hp hw => ?_)
            obtain ⟨l_v145, h_v145, _, hm⟩ := hp
            have hM := hM.trans hm (by decide) (by decide)
            have f_a0_X7_0 := hm.1 _ _ _ _ f_a0_X7_0 (by decide)
            have f_a0_X7_1 := hm.1 _ _ _ _ f_a0_X7_1 (by decide)
            have f_a1_X9_3 := hm.1 _ _ _ _ f_a1_X9_3 (by decide)
            refine lv_if_eq (tgt := 154) hx hb dX7_read_148 (by decide) (fun c_148 => ?_) (fun c_148 => ?_)
            · simp only [fa_lt, fa_le, fa_eq, li_0] at c_148
              refine lv_aload_n hx hb dX7_read_154 rfl (lv_at hl 0 rfl) ?_
              refine t_getk (ci := 7) (C := RX7) (T := TX7) (N := 3) hx hb hts iX7 hown hw rfl 0 (by decide) (hts _ tw_166) (fun _ h9 => h9) dX7_read_155 f_a0_X7_0 ?_
              refine lv_bipush (v := 59) hx hb dX7_read_158 (by decide) ?_
              refine t_calli (va_runV (As := [.int 59]) (rest := []) ⟨hx, hb, hml, hown, hts⟩ (t_X9_takeSign l dC dI tys κ B w_12 hw.2.2.2.2 a1 k_a1 59 (by decide) (by decide) H.size) (cwV 1 hts (gUV tw_673 tw_603 tw_604 tw_2 tw_605) rfl rfl rfl (by decide +kernel) ⟨(Nat.le_of_ble_eq_true rfl), (Nat.le_of_ble_eq_true rfl)⟩) ⟨cPre.blind, t_recv hw (ci := 9) k_a1 rfl rfl, cPre.use hw.2.1 hw.1 hw.2.2.1 hE⟩ rfl rfl hl.1 rfl (lv_room (Nat.le_of_ble_eq_true rfl)) dX7_read_160 ⟨(Nat.le_of_ble_eq_true rfl), (Nat.le_of_ble_eq_true rfl)⟩) hw hA (fun _ _ h => h.2.2.1) (fun v160 w_13 H locs hp hw => ?_)
              obtain ⟨l_v160, h_v160, _, hm⟩ := hp
              have hM := hM.trans hm (by decide) (by decide)
              have f_a0_X7_0 := hm.1 _ _ _ _ f_a0_X7_0 (by decide)
              have f_a0_X7_1 := hm.1 _ _ _ _ f_a0_X7_1 (by decide)
              have f_a1_X9_3 := hm.1 _ _ _ _ f_a1_X9_3 (by decide)
              have J181 : ∀ (H : Heap) (locs : List Loc) (ls : Array Slot) (w181 : va_W) (p181_m_a1_X9_3 : Int32), tW (dC, dI) tys κ B A s w181 H locs → Sm [(6, 1), (6, 5), (7, 0), (7, 1), (7, 2), (9, 2), (9, 3)] [38, 39, 40, 41] κ ws w181 → 0 ≤ p181_m_a1_X9_3.toInt → p181_m_a1_X9_3.toInt ≤ 3205 → fld w181 a0 7 0 (.ref a1) → fld w181 a0 7 1 (.ref a2) → fld w181 a1 9 3 (.int p181_m_a1_X9_3) → lv_has ls 5 [(0, .ref a0), (1, .ref a1), (2, .ref a2), (3, .int p31_l3), (4, .int v41)] → W p l e (headSpec (ws_u yX7_read cX7_read 5 (some .boolean)) ({ frames := 30, cells := 0, slots := 0, locals := 720 })).room s m ([.ref a0, .ref a1, .ref a2] : List Value).toArray below meth c H locs 0 0 QQ (F0 m 181 ls []) := by
                intro H locs ls w181 p181_m_a1_X9_3 hw hM l_p181_m_a1_X9_3 h_p181_m_a1_X9_3 f_a0_X7_0 f_a0_X7_1 f_a1_X9_3 hl
                obtain ⟨v181, e_v181⟩ : ∃ y : Int32, y = p31_l3 + 1 := ⟨_, rfl⟩
                refine lv_iinc (v := v181) (lv' := [(3, .int v181), (0, .ref a0), (1, .ref a1), (2, .ref a2), (4, .int v41)]) hx hb dX7_read_181 hl (k := 3) rfl e_v181.symm (by decide) rfl (fun ls hl => ?_)
                have e_v181 : v181.toInt = p31_l3.toInt + 1 := ad_i e_v181 rfl li_1 (by omega) (by omega)
                refine lv_goto (tgt := 31) hx hb dX7_read_184 (by decide) ?_
                exact ih_31 _ _ _ _ (by omega) ⟨w181, v181, hw, hM, (by omega), (by omega), f_a0_X7_0, f_a0_X7_1, (lv_sub hl [1, 2, 3, 0] rfl), rfl⟩
              refine lv_if_ne (tgt := 181) hx hb dX7_read_163 (by decide) (fun c_163 => ?_) (fun c_163 => ?_)
              · simp only [fa_lt, fa_le, fa_eq, li_0] at c_163
                exact J181 _ _ _ w_13 v135 hw hM (by omega) (by omega) f_a0_X7_0 f_a0_X7_1 f_a1_X9_3 (lv_sub hl [0, 1, 2, 3, 4] rfl)
              · simp only [fa_lt, fa_le, fa_eq, li_0] at c_163
                refine lv_aload_n hx hb dX7_read_166 rfl (lv_at hl 0 rfl) ?_
                refine t_getk (ci := 7) (C := RX7) (T := TX7) (N := 3) hx hb hts iX7 hown hw rfl 0 (by decide) (hts _ tw_166) (fun _ h9 => h9) dX7_read_167 f_a0_X7_0 ?_
                refine lv_aload_n hx hb dX7_read_170 rfl (lv_at hl 0 rfl) ?_
                refine t_getk (ci := 7) (C := RX7) (T := TX7) (N := 3) hx hb hts iX7 hown hw rfl 0 (by decide) (hts _ tw_166) (fun _ h9 => h9) dX7_read_171 f_a0_X7_0 ?_
                refine t_geti (ci := 9) (C := RX9) (T := TX9) (N := 4) hx hb hts iX9 hown hw k_a1 rfl rfl rfl 2 (by decide) (hts _ tw_39) (fun _ h9 => h9) dX7_read_174 rfl (fun v174 l_v174 h_v174 f_a1_X9_2 => ?_)
                have l_v174 : 0 ≤ v174.toInt := l_v174
                have h_v174 : v174.toInt ≤ 400 := h_v174
                refine lv_iconst (v := 0) hx hb dX7_read_177 (by decide) ?_
                refine t_callv (va_runV (As := [.int v174, .int 0]) (rest := []) ⟨hx, hb, hml, hown, hts⟩ (t_X9_fail l dC dI tys κ B w_13 hw.2.2.2.2 a1 k_a1 v174 (by omega) (by omega) 0 (by decide) (by decide) H.size) (cwV 2 hts (gUV tw_644 tw_562 tw_563 tw_2 tw_564) rfl rfl rfl (by decide +kernel) ⟨(Nat.le_of_ble_eq_true rfl), (Nat.le_of_ble_eq_true rfl)⟩) ⟨cPre.blind, t_recv hw (ci := 9) k_a1 rfl rfl, cPre.use hw.2.1 hw.1 hw.2.2.1 hE⟩ rfl rfl hl.1 rfl (lv_room (Nat.le_of_ble_eq_true rfl)) dX7_read_178 ⟨(Nat.le_of_ble_eq_true rfl), (Nat.le_of_ble_eq_true rfl)⟩) hw hA (fun _ h => h.1) (fun w_14 H locs hp hw => ?_)
                obtain ⟨_, hm, ⟨v178f, l_v178f, h_v178f, f_a1_X9_3⟩⟩ := hp
                have zc_0 := li_0
                have hM := hM.trans hm (by decide) (by decide)
                have f_a0_X7_0 := hm.1 _ _ _ _ f_a0_X7_0 (by decide)
                have f_a0_X7_1 := hm.1 _ _ _ _ f_a0_X7_1 (by decide)
                have f_a1_X9_2 := hm.1 _ _ _ _ f_a1_X9_2 (by decide)
                exact J181 _ _ _ w_14 v178f hw hM (by omega) (by omega) f_a0_X7_0 f_a0_X7_1 f_a1_X9_3 (lv_sub hl [0, 1, 2, 3, 4] rfl)
            · simp only [fa_lt, fa_le, fa_eq, li_0] at c_148
              refine lv_goto (tgt := 187) hx hb dX7_read_151 (by decide) ?_
              exact J187 _ _ _ w_12 hw hM f_a0_X7_0 f_a0_X7_1 (lv_sub hl [0, 1, 2, 3] rfl)
        refine lv_icmp_eq (tgt := 124) hx hb dX7_read_116 (by decide) (fun c_116 => ?_) (fun c_116 => ?_)
        · simp only [fa_lt, fa_le, fa_eq, li_m1] at c_116
          exact J124 _ _ _ w_10 hw hM f_a0_X7_0 f_a0_X7_1 (lv_sub hl [0, 1, 2, 3, 4] rfl)
        · simp only [fa_lt, fa_le, fa_eq, li_m1] at c_116
          refine lv_aload_n hx hb dX7_read_119 rfl (lv_at hl 0 rfl) ?_
          refine lv_iconst (v := 0) hx hb dX7_read_120 (by decide) ?_
          refine t_callv (va_runV (As := [.int 0]) (rest := []) ⟨hx, hb, hml, hown, hts⟩ (t_X7_readTest_0 l dC dI tys κ B w_10 hw.2.2.2.2 aK aV a0 k_a0 0 (by decide) (by decide) a1 k_a1 f_a0_X7_0 a2 k_a2 f_a0_X7_1 H.size) (cwV 1 hts (gUV tw_679 tw_681 ts_0_12 tw_5 tw_682) rfl rfl rfl (by decide +kernel) ⟨(Nat.le_of_ble_eq_true rfl), (Nat.le_of_ble_eq_true rfl)⟩) ⟨cPreS.blind, t_recv hw (ci := 7) k_a0 rfl rfl, cPreS.use hw.2.1 hw.1 hw.2.2.1 hE hStr hR hw.2.2.2.1 (hw.free hA)⟩ rfl rfl hl.1 rfl (lv_room (Nat.le_of_ble_eq_true rfl)) dX7_read_121 ⟨(Nat.le_of_ble_eq_true rfl), (Nat.le_of_ble_eq_true rfl)⟩) hw hA (fun _ h => h.1) (fun w_15 H locs hp hw => ?_)
          obtain ⟨_, hm⟩ := hp
          have hM := hM.trans hm (by decide) (by decide)
          have f_a0_X7_0 := hm.1 _ _ _ _ f_a0_X7_0 (by decide)
          have f_a0_X7_1 := hm.1 _ _ _ _ f_a0_X7_1 (by decide)
          exact J124 _ _ _ w_15 hw hM f_a0_X7_0 f_a0_X7_1 (lv_sub hl [0, 1, 2, 3, 4] rfl)
      refine lv_icmp_ne (tgt := 72) hx hb dX7_read_56 (by decide) (fun c_56 => ?_) (fun c_56 => ?_)
      · simp only [fa_lt, fa_le, fa_eq, li_m1] at c_56
        refine lv_iload_n hx hb dX7_read_72 rfl (lv_at hl 4 rfl) ?_
        refine lv_bipush (v := 12) hx hb dX7_read_73 (by decide) ?_
        refine lv_icmp_lt (tgt := 88) hx hb dX7_read_75 (by decide) (fun c_75 => ?_) (fun c_75 => ?_)
        · simp only [fa_lt, fa_le, fa_eq, li_12] at c_75
          exact J88 _ _ _ w_6 hw hM f_a0_X7_0 f_a0_X7_1 (lv_sub hl [1, 2, 3, 4, 0] rfl)
        · simp only [fa_lt, fa_le, fa_eq, li_12] at c_75
          refine lv_aload_n hx hb dX7_read_78 rfl (lv_at hl 1 rfl) ?_
          refine t_getk (ci := 7) (C := RX7) (T := TX7) (N := 3) hx hb hts iX7 hown hw rfl 0 (by decide) (hts _ tw_166) (fun _ h9 => h9) dX7_read_79 f_a0_X7_0 ?_
          refine lv_iload hx hb dX7_read_82 (lv_at hl 0 rfl) ?_
          refine lv_iconst (v := 4) hx hb dX7_read_84 (by decide) ?_
          refine t_callv (va_runV (As := [.int v41, .int 4]) (rest := []) ⟨hx, hb, hml, hown, hts⟩ (t_X9_fail l dC dI tys κ B w_6 hw.2.2.2.2 a1 k_a1 v41 (by omega) (by omega) 4 (by decide) (by decide) H.size) (cwV 2 hts (gUV tw_644 tw_562 tw_563 tw_2 tw_564) rfl rfl rfl (by decide +kernel) ⟨(Nat.le_of_ble_eq_true rfl), (Nat.le_of_ble_eq_true rfl)⟩) ⟨cPre.blind, t_recv hw (ci := 9) k_a1 rfl rfl, cPre.use hw.2.1 hw.1 hw.2.2.1 hE⟩ rfl rfl hl.1 rfl (lv_room (Nat.le_of_ble_eq_true rfl)) dX7_read_85 ⟨(Nat.le_of_ble_eq_true rfl), (Nat.le_of_ble_eq_true rfl)⟩) hw hA (fun _ h => h.1) (fun w_16 H locs hp hw => ?_)
          obtain ⟨_, hm, ⟨v85f, l_v85f, h_v85f, f_a1_X9_3⟩⟩ := hp
          have zc_4 := li_4
          have hM := hM.trans hm (by decide) (by decide)
          have f_a0_X7_0 := hm.1 _ _ _ _ f_a0_X7_0 (by decide)
          have f_a0_X7_1 := hm.1 _ _ _ _ f_a0_X7_1 (by decide)
          exact J88 _ _ _ w_16 hw hM f_a0_X7_0 f_a0_X7_1 (lv_sub hl [1, 2, 3, 4, 0] rfl)
      · simp only [fa_lt, fa_le, fa_eq, li_m1] at c_56
        refine lv_aload_n hx hb dX7_read_59 rfl (lv_at hl 1 rfl) ?_
        refine t_getk (ci := 7) (C := RX7) (T := TX7) (N := 3) hx hb hts iX7 hown hw rfl 0 (by decide) (hts _ tw_166) (fun _ h9 => h9) dX7_read_60 f_a0_X7_0 ?_
        refine lv_iload hx hb dX7_read_63 (lv_at hl 0 rfl) ?_
        refine lv_iconst (v := 0) hx hb dX7_read_65 (by decide) ?_
        refine t_callv (va_runV (As := [.int v41, .int 0]) (rest := []) ⟨hx, hb, hml, hown, hts⟩ (t_X9_fail l dC dI tys κ B w_6 hw.2.2.2.2 a1 k_a1 v41 (by omega) (by omega) 0 (by decide) (by decide) H.size) (cwV 2 hts (gUV tw_644 tw_562 tw_563 tw_2 tw_564) rfl rfl rfl (by decide +kernel) ⟨(Nat.le_of_ble_eq_true rfl), (Nat.le_of_ble_eq_true rfl)⟩) ⟨cPre.blind, t_recv hw (ci := 9) k_a1 rfl rfl, cPre.use hw.2.1 hw.1 hw.2.2.1 hE⟩ rfl rfl hl.1 rfl (lv_room (Nat.le_of_ble_eq_true rfl)) dX7_read_66 ⟨(Nat.le_of_ble_eq_true rfl), (Nat.le_of_ble_eq_true rfl)⟩) hw hA (fun _ h => h.1) (fun w_17 H locs hp hw => ?_)
        obtain ⟨_, hm, ⟨v66f, l_v66f, h_v66f, f_a1_X9_3⟩⟩ := hp
        have zc_0 := li_0
        have hM := hM.trans hm (by decide) (by decide)
        have f_a0_X7_0 := hm.1 _ _ _ _ f_a0_X7_0 (by decide)
        have f_a0_X7_1 := hm.1 _ _ _ _ f_a0_X7_1 (by decide)
        refine lv_goto (tgt := 88) hx hb dX7_read_69 (by decide) ?_
        exact J88 _ _ _ w_17 hw hM f_a0_X7_0 f_a0_X7_1 (lv_sub hl [1, 2, 3, 4, 0] rfl)
  exact J31 _ _ _ _ ⟨w_5, 0, hw, hM, (by decide), (by decide), f_a0_X7_0, f_a0_X7_1, (lv_sub hl [1, 2, 3, 0] rfl), rfl⟩
set_option maxHeartbeats 4000000 in
set_option maxRecDepth 100000 in
theorem t_X11_rule (l : Launch) (dC : Nat → ClassId) (dI : Nat → Nat → Nat) (tys : List (ClassId × FieldType)) (κ : tK) (B : Nat) (ws : va_W) (hT : Ty κ tys B ws) (aK aV : Nat → Nat) (a0 : Nat) (k_a0 : κ a0 = some 11) (sz : Nat) : Met l yX11_rule (ws_u yX11_rule cX11_rule 1 (some .int)) ({ frames := 31, cells := 0, slots := 0, locals := 744 }) (va_Pc [.ref a0] (cPreS (dC, dI) aK aV tys ws sz)) (va_Qi (fun (r : Int32) (w : va_W) => (-3207) ≤ r.toInt ∧ r.toInt ≤ 5 ∧ Ty κ tys B w ∧ Sm [(6, 1), (6, 5), (7, 0), (7, 1), (7, 2), (9, 1), (9, 2), (9, 3), (11, 4)] [38, 39, 40, 41] κ ws w) (fun w t => cPost (dC, dI) tys w (va_A ws sz) t) (va_A ws sz)) 0 0 (va_A ws sz) := by
  refine Met.ofW (cc := cX11_rule) (maxL := 1) (ret := (some .int)) (by decide) rfl ?_
  intro p e s m args below meth c s₁ B0 hml hv
  obtain ⟨rfl, ⟨hsz, hP, hK, hD0, hE⟩, hStr, hR⟩ := hv
  have hx := B0.exec
  have hb := B0.bytes
  have hr := B0.returns
  have hts0 := atoms_spec (ws := ws_u yX11_rule cX11_rule 1 (some .int)) B0.pre
  have hts : ∀ w ∈ gT, w.before _ s = true := fun w h => hts0 w (List.mem_cons_of_mem _ h)
  have hown : s.vm.findClass RX11 = some m.cls := findClass_of_methodNamed B0.named
  have hlocks := B0.notSynchronized
  subst hsz
  have hD := hD0.self (sz := s.heap.size)
  generalize hAe : va_A ws s.heap.size = A at hD hStr ⊢
  have hA : ∀ q : Nat, s.heap.size ≤ q → A q := fun q h => by rw [← hAe]; exact Or.inr h
  have hw : tW (dC, dI) tys κ B A s ws s.heap [] := ⟨hK, hP, hD, va_S.rf, hT⟩
  have hM : Sm [(6, 1), (6, 5), (7, 0), (7, 1), (7, 2), (9, 1), (9, 2), (9, 3), (11, 4)] [38, 39, 40, 41] κ ws ws := Sm.rf
  clear hP hK hD hD0 hts0
  have hl := lv_entry ([.ref a0]) (n := 1) (Nat.le_of_ble_eq_true rfl)
  rw [lg_entry_eq]
  generalize (lg_sl ([.ref a0]) ++ List.replicate (1 - (lg_sl ([.ref a0])).length) Slot.unset).toArray = ls at hl ⊢
  have hl : lv_has ls 1 [(0, .ref a0)] := hl
  refine t_start (fun QQ hQ => ?_)
  refine lv_aload_n hx hb dX11_rule_0 rfl (lv_at hl 0 rfl) ?_
  refine t_geti (ci := 11) (C := RX11) (T := TX11) (N := 12) hx hb hts iX11 hown hw k_a0 rfl rfl rfl 4 (by decide) (hts _ tw_427) (fun _ h9 => h9) dX11_rule_1 rfl (fun v1 l_v1 h_v1 f_a0_X11_4 => ?_)
  have l_v1 : 0 ≤ v1.toInt := l_v1
  have h_v1 : v1.toInt ≤ 6 := h_v1
  refine lv_bipush (v := 6) hx hb dX11_rule_4 (by decide) ?_
  refine lv_icmp_lt (tgt := 11) hx hb dX11_rule_6 (by decide) (fun c_6 => ?_) (fun c_6 => ?_)
  · simp only [fa_lt, fa_le, fa_eq, li_6] at c_6
    refine lv_aload_n hx hb dX11_rule_11 rfl (lv_at hl 0 rfl) ?_
    refine t_getr (k1 := 7) (ci := 11) (C := RX11) (T := TX11) (N := 12) hx hb hts iX11 hown hw k_a0 rfl rfl rfl 2 (by decide) (hts _ tw_425) (fun _ h9 => h9) dX11_rule_12 rfl (fun v12 k_v12 f_a0_X11_2 => ?_)
    refine lv_aload_n hx hb dX11_rule_15 rfl (lv_at hl 0 rfl) ?_
    refine t_getr (k1 := 9) (ci := 11) (C := RX11) (T := TX11) (N := 12) hx hb hts iX11 hown hw k_a0 rfl rfl rfl 0 (by decide) (hts _ tw_423) (fun _ h9 => h9) dX11_rule_16 rfl (fun v16 k_v16 f_a0_X11_0 => ?_)
    refine lv_aload_n hx hb dX11_rule_19 rfl (lv_at hl 0 rfl) ?_
    refine t_getr (k1 := 52) (ci := 11) (C := RX11) (T := TX11) (N := 12) hx hb hts iX11 hown hw k_a0 rfl rfl rfl 3 (by decide) (hts _ tw_426) (fun _ h9 => h9) dX11_rule_20 rfl (fun v20 k_v20 f_a0_X11_3 => ?_)
    refine lv_aload_n hx hb dX11_rule_23 rfl (lv_at hl 0 rfl) ?_
    refine t_getk (ci := 11) (C := RX11) (T := TX11) (N := 12) hx hb hts iX11 hown hw rfl 4 (by decide) (hts _ tw_427) (fun _ h9 => h9) dX11_rule_24 f_a0_X11_4 ?_
    refine t_aald (C := RX6) hx hb hw k_v20 rfl rfl (by omega) (show v1.toInt < 6 by omega) dX11_rule_27 (fun v27 k_v27 => ?_)
    have k_v27 : κ v27 = some 6 := k_v27
    refine t_calli (va_runV (As := [.ref v16, .ref v27]) (rest := []) ⟨hx, hb, hml, hown, hts⟩ (t_X7_read l dC dI tys κ B ws hw.2.2.2.2 aK aV v12 k_v12 v16 k_v16 v27 k_v27 s.heap.size) (cwV 2 hts (gUV tw_633 tw_634 tw_635 tw_5 tw_636) rfl rfl rfl (by decide +kernel) ⟨(Nat.le_of_ble_eq_true rfl), (Nat.le_of_ble_eq_true rfl)⟩) ⟨cPreS.blind, t_recv hw (ci := 7) k_v12 rfl rfl, cPreS.use hw.2.1 hw.1 hw.2.2.1 hE hStr hR hw.2.2.2.1 (hw.free hA)⟩ rfl rfl hl.1 rfl (lv_room (Nat.le_of_ble_eq_true rfl)) dX11_rule_28 ⟨(Nat.le_of_ble_eq_true rfl), (Nat.le_of_ble_eq_true rfl)⟩) hw hA (fun _ _ h => h.2.2.1) (fun v28 w_1 H locs hp hw => ?_)
    obtain ⟨l_v28, h_v28, _, hm⟩ := hp
    have hM := hM.trans hm (by decide) (by decide)
    have f_a0_X11_4 := hm.1 _ _ _ _ f_a0_X11_4 (by decide)
    have f_a0_X11_2 := hm.1 _ _ _ _ f_a0_X11_2 (by decide)
    have f_a0_X11_0 := hm.1 _ _ _ _ f_a0_X11_0 (by decide)
    have f_a0_X11_3 := hm.1 _ _ _ _ f_a0_X11_3 (by decide)
    refine lv_if_ne (tgt := 45) hx hb dX11_rule_31 (by decide) (fun c_31 => ?_) (fun c_31 => ?_)
    · simp only [fa_lt, fa_le, fa_eq, li_0] at c_31
      refine lv_aload_n hx hb dX11_rule_45 rfl (lv_at hl 0 rfl) ?_
      refine t_getk (ci := 11) (C := RX11) (T := TX11) (N := 12) hx hb hts iX11 hown hw rfl 0 (by decide) (hts _ tw_423) (fun _ h9 => h9) dX11_rule_46 f_a0_X11_0 ?_
      refine lv_iconst (v := 0) hx hb dX11_rule_49 (by decide) ?_
      refine t_put (ci := 9) (C := RX9) (T := TX9) (N := 4) (v := .int 0) hx hb hts iX9 tyX9 tyX9_ok nmX9 hown hw k_v16 rfl rfl rfl 1 (by decide) (hts _ tw_38) (fun _ h9 => h9) rfl (tyX9_ok 1 (by decide)) rfl rfl (okV.int rfl (by decide) (by decide)) dX11_rule_50 (fun w_2 H locs hw u => ?_)
      have hM := hM.up1 u (by decide)
      have f_a0_X11_4 := u.1 _ _ _ _ f_a0_X11_4 (Or.inr (Or.inl (by decide)))
      have f_a0_X11_2 := u.1 _ _ _ _ f_a0_X11_2 (Or.inr (Or.inl (by decide)))
      have f_a0_X11_0 := u.1 _ _ _ _ f_a0_X11_0 (Or.inr (Or.inl (by decide)))
      have f_a0_X11_3 := u.1 _ _ _ _ f_a0_X11_3 (Or.inr (Or.inl (by decide)))
      have f_v16_X9_1 := u.2.2
      refine lv_aload_n hx hb dX11_rule_53 rfl (lv_at hl 0 rfl) ?_
      refine lv_dup hx hb dX11_rule_54 rfl ?_
      refine t_getk (ci := 11) (C := RX11) (T := TX11) (N := 12) hx hb hts iX11 hown hw rfl 4 (by decide) (hts _ tw_427) (fun _ h9 => h9) dX11_rule_55 f_a0_X11_4 ?_
      refine lv_iconst (v := 1) hx hb dX11_rule_58 (by decide) ?_
      refine lv_iadd hx hb dX11_rule_59 ?_
      refine lv_topi (fun v59 e_v59 => ?_)
      have e_v59 : v59.toInt = v1.toInt + 1 := ad_i e_v59 rfl li_1 (by omega) (by omega)
      refine t_put (ci := 11) (C := RX11) (T := TX11) (N := 12) (v := .int v59) hx hb hts iX11 tyX11 tyX11_ok nmX11 hown hw k_a0 rfl rfl rfl 4 (by decide) (hts _ tw_427) (fun _ h9 => h9) rfl (tyX11_ok 4 (by decide)) rfl rfl (okV.int rfl (by omega) (by omega)) dX11_rule_60 (fun w_3 H locs hw u => ?_)
      have hM := hM.up1 u (by decide)
      have f_a0_X11_4 := u.2.2
      have f_a0_X11_2 := u.1 _ _ _ _ f_a0_X11_2 (Or.inr (Or.inr (by decide)))
      have f_a0_X11_0 := u.1 _ _ _ _ f_a0_X11_0 (Or.inr (Or.inr (by decide)))
      have f_a0_X11_3 := u.1 _ _ _ _ f_a0_X11_3 (Or.inr (Or.inr (by decide)))
      have f_v16_X9_1 := u.1 _ _ _ _ f_v16_X9_1 (Or.inr (Or.inl (by decide)))
      refine lv_aload_n hx hb dX11_rule_63 rfl (lv_at hl 0 rfl) ?_
      refine t_getk (ci := 11) (C := RX11) (T := TX11) (N := 12) hx hb hts iX11 hown hw rfl 4 (by decide) (hts _ tw_427) (fun _ h9 => h9) dX11_rule_64 f_a0_X11_4 ?_
      refine lv_iconst (v := 1) hx hb dX11_rule_67 (by decide) ?_
      refine lv_isub hx hb dX11_rule_68 ?_
      refine lv_topi (fun v68 e_v68 => ?_)
      have e_v68 : v68.toInt = v59.toInt - 1 := sb_i e_v68 rfl li_1 (by omega) (by omega)
      rw [hQ]
      refine W.widen (k := 0) (n := 0) (Nat.le_refl _) (Nat.le_refl _) ?_
      exact W.iret (v := v68) hx hb hr (fun t ht hW => ⟨⟨v68, w_3, rfl, ⟨(by omega), (by omega), hw.2.2.2.2, hM⟩, by rw [ht]; exact hw.2.1, va_K.moved hW.alike hw.1, hw.2.2.1⟩, hw.2.2.2.1.F ht⟩) hw.2.2.2.1.2.2 dX11_rule_69
    · simp only [fa_lt, fa_le, fa_eq, li_0] at c_31
      refine lv_bipush (v := (-2)) hx hb dX11_rule_34 (by decide) ?_
      refine lv_aload_n hx hb dX11_rule_36 rfl (lv_at hl 0 rfl) ?_
      refine t_getk (ci := 11) (C := RX11) (T := TX11) (N := 12) hx hb hts iX11 hown hw rfl 0 (by decide) (hts _ tw_423) (fun _ h9 => h9) dX11_rule_37 f_a0_X11_0 ?_
      refine t_geti (ci := 9) (C := RX9) (T := TX9) (N := 4) hx hb hts iX9 hown hw k_v16 rfl rfl rfl 3 (by decide) (hts _ tw_45) (fun _ h9 => h9) dX11_rule_40 rfl (fun v40 l_v40 h_v40 f_v16_X9_3 => ?_)
      have l_v40 : 0 ≤ v40.toInt := l_v40
      have h_v40 : v40.toInt ≤ 3205 := h_v40
      refine lv_isub hx hb dX11_rule_43 ?_
      refine lv_topi (fun v43 e_v43 => ?_)
      have e_v43 : v43.toInt = (-2) - v40.toInt := sb_i e_v43 li_m2 rfl (by omega) (by omega)
      rw [hQ]
      refine W.widen (k := 0) (n := 0) (Nat.le_refl _) (Nat.le_refl _) ?_
      exact W.iret (v := v43) hx hb hr (fun t ht hW => ⟨⟨v43, w_1, rfl, ⟨(by omega), (by omega), hw.2.2.2.2, hM⟩, by rw [ht]; exact hw.2.1, va_K.moved hW.alike hw.1, hw.2.2.1⟩, hw.2.2.2.1.F ht⟩) hw.2.2.2.1.2.2 dX11_rule_44
  · simp only [fa_lt, fa_le, fa_eq, li_6] at c_6
    refine lv_iconst (v := (-1)) hx hb dX11_rule_9 (by decide) ?_
    rw [hQ]
    refine W.widen (k := 0) (n := 0) (Nat.le_refl _) (Nat.le_refl _) ?_
    exact W.iret (v := (-1)) hx hb hr (fun t ht hW => ⟨⟨(-1), ws, rfl, ⟨(by decide), (by decide), hw.2.2.2.2, hM⟩, by rw [ht]; exact hw.2.1, va_K.moved hW.alike hw.1, hw.2.2.1⟩, hw.2.2.2.1.F ht⟩) hw.2.2.2.1.2.2 dX11_rule_10
set_option maxHeartbeats 4000000 in
set_option maxRecDepth 100000 in
theorem t_X2_firstFitting (l : Launch) (dC : Nat → ClassId) (dI : Nat → Nat → Nat) (tys : List (ClassId × FieldType)) (κ : tK) (B : Nat) (ws : va_W) (hT : Ty κ tys B ws) (a0 : Nat) (k_a0 : κ a0 = some 2) (sz : Nat) : Met l yX2_firstFitting (ws_u yX2_firstFitting cX2_firstFitting 2 (some .int)) ({ frames := 1, cells := 0, slots := 0, locals := 21 }) (va_Pc [.ref a0] (cPre (dC, dI) tys ws sz)) (va_Qi (fun (r : Int32) (w : va_W) => (-2) ≤ r.toInt ∧ r.toInt ≤ 5 ∧ Ty κ tys B w ∧ Sm [] [] κ ws w) (fun w t => cPost (dC, dI) tys w (va_A ws sz) t) (va_A ws sz)) 0 0 (va_A ws sz) := by
  refine Met.ofW (cc := cX2_firstFitting) (maxL := 2) (ret := (some .int)) (by decide) rfl ?_
  intro p e s m args below meth c s₁ B0 hml hv
  obtain ⟨rfl, hsz, hP, hK, hD0, hE⟩ := hv
  have hx := B0.exec
  have hb := B0.bytes
  have hr := B0.returns
  have hts0 := atoms_spec (ws := ws_u yX2_firstFitting cX2_firstFitting 2 (some .int)) B0.pre
  have hts : ∀ w ∈ gT, w.before _ s = true := fun w h => hts0 w (List.mem_cons_of_mem _ h)
  have hown : s.vm.findClass RX2 = some m.cls := findClass_of_methodNamed B0.named
  have hlocks := B0.notSynchronized
  subst hsz
  have hD := hD0.self (sz := s.heap.size)
  generalize hAe : va_A ws s.heap.size = A at hD ⊢
  have hA : ∀ q : Nat, s.heap.size ≤ q → A q := fun q h => by rw [← hAe]; exact Or.inr h
  have hw : tW (dC, dI) tys κ B A s ws s.heap [] := ⟨hK, hP, hD, va_S.rf, hT⟩
  have hM : Sm [] [] κ ws ws := Sm.rf
  clear hP hK hD hD0 hts0
  have hl := lv_entry ([.ref a0]) (n := 2) (Nat.le_of_ble_eq_true rfl)
  rw [lg_entry_eq]
  generalize (lg_sl ([.ref a0]) ++ List.replicate (2 - (lg_sl ([.ref a0])).length) Slot.unset).toArray = ls at hl ⊢
  have hl : lv_has ls 2 [(0, .ref a0)] := hl
  refine t_start (fun QQ hQ => ?_)
  refine lv_iconst (v := 0) hx hb dX2_firstFitting_0 (by decide) ?_
  refine lv_istore_n (lv' := [(1, .int 0), (0, .ref a0)]) hx hb dX2_firstFitting_1 rfl hl (by decide) rfl (fun ls hl => ?_)
  have J2 : ∀ (n : Nat) (H : Heap) (locs : List Loc) (ls : Array Slot), (∃ (w2 : va_W) (p2_l1 : Int32), tW (dC, dI) tys κ B A s w2 H locs ∧ Sm [] [] κ ws w2 ∧ 0 ≤ p2_l1.toInt ∧ p2_l1.toInt ≤ 7 ∧ lv_has ls 2 [(0, .ref a0), (1, .int p2_l1)] ∧ (7 - p2_l1.toInt).toNat = n) → W p l e (headSpec (ws_u yX2_firstFitting cX2_firstFitting 2 (some .int)) ({ frames := 1, cells := 0, slots := 0, locals := 21 })).room s m ([.ref a0] : List Value).toArray below meth c H locs 0 0 QQ (F0 m 2 ls []) := by
    refine loopT _ ?_
    intro n_2 H locs ls hI ih_2
    obtain ⟨w2, p2_l1, hw, hM, l_p2_l1, h_p2_l1, hl, hn_2⟩ := hI
    refine lv_iload_n hx hb dX2_firstFitting_2 rfl (lv_at hl 1 rfl) ?_
    refine lv_bipush (v := 7) hx hb dX2_firstFitting_3 (by decide) ?_
    refine lv_icmp_ge (tgt := 26) hx hb dX2_firstFitting_5 (by decide) (fun c_5 => ?_) (fun c_5 => ?_)
    · simp only [fa_lt, fa_le, fa_eq, li_7] at c_5
      refine lv_bipush (v := (-2)) hx hb dX2_firstFitting_26 (by decide) ?_
      rw [hQ]
      refine W.widen (k := 0) (n := 0) (Nat.le_refl _) (Nat.le_refl _) ?_
      exact W.iret (v := (-2)) hx hb hr (fun t ht hW => ⟨⟨(-2), w2, rfl, ⟨(by decide), (by decide), hw.2.2.2.2, hM⟩, by rw [ht]; exact hw.2.1, va_K.moved hW.alike hw.1, hw.2.2.1⟩, hw.2.2.2.1.F ht⟩) hw.2.2.2.1.2.2 dX2_firstFitting_28
    · simp only [fa_lt, fa_le, fa_eq, li_7] at c_5
      refine lv_aload_n hx hb dX2_firstFitting_8 rfl (lv_at hl 0 rfl) ?_
      refine lv_iload_n hx hb dX2_firstFitting_9 rfl (lv_at hl 1 rfl) ?_
      refine t_calli (va_runV (As := [.int p2_l1]) (rest := []) ⟨hx, hb, hml, hown, hts⟩ (t_X2_isFitting l dC dI tys κ B w2 hw.2.2.2.2 a0 k_a0 p2_l1 (by omega) (by omega) H.size) (cwV 1 hts (gUV tw_1041 tw_1043 ts_2_11 tw_12 tw_1044) rfl rfl rfl (by decide +kernel) ⟨(Nat.le_of_ble_eq_true rfl), (Nat.le_of_ble_eq_true rfl)⟩) ⟨cPre.blind, t_recv hw (ci := 2) k_a0 rfl rfl, cPre.use hw.2.1 hw.1 hw.2.2.1 hE⟩ rfl rfl hl.1 rfl (lv_room (Nat.le_of_ble_eq_true rfl)) dX2_firstFitting_10 ⟨(Nat.le_of_ble_eq_true rfl), (Nat.le_of_ble_eq_true rfl)⟩) hw hA (fun _ _ h => h.2.2.1) (fun v10 w_1 H locs hp hw => ?_)
      obtain ⟨l_v10, h_v10, _, hm⟩ := hp
      have hM := hM.trans hm (by decide) (by decide)
      refine lv_if_eq (tgt := 20) hx hb dX2_firstFitting_13 (by decide) (fun c_13 => ?_) (fun c_13 => ?_)
      · simp only [fa_lt, fa_le, fa_eq, li_0] at c_13
        obtain ⟨v20, e_v20⟩ : ∃ y : Int32, y = p2_l1 + 1 := ⟨_, rfl⟩
        refine lv_iinc (v := v20) (lv' := [(1, .int v20), (0, .ref a0)]) hx hb dX2_firstFitting_20 hl (k := 1) rfl e_v20.symm (by decide) rfl (fun ls hl => ?_)
        have e_v20 : v20.toInt = p2_l1.toInt + 1 := ad_i e_v20 rfl li_1 (by omega) (by omega)
        refine lv_goto (tgt := 2) hx hb dX2_firstFitting_23 (by decide) ?_
        exact ih_2 _ _ _ _ (by omega) ⟨w_1, v20, hw, hM, (by omega), (by omega), (lv_sub hl [1, 0] rfl), rfl⟩
      · simp only [fa_lt, fa_le, fa_eq, li_0] at c_13
        refine lv_iload_n hx hb dX2_firstFitting_16 rfl (lv_at hl 1 rfl) ?_
        refine lv_iconst (v := 1) hx hb dX2_firstFitting_17 (by decide) ?_
        refine lv_isub hx hb dX2_firstFitting_18 ?_
        refine lv_topi (fun v18 e_v18 => ?_)
        have e_v18 : v18.toInt = p2_l1.toInt - 1 := sb_i e_v18 rfl li_1 (by omega) (by omega)
        rw [hQ]
        refine W.widen (k := 0) (n := 0) (Nat.le_refl _) (Nat.le_refl _) ?_
        exact W.iret (v := v18) hx hb hr (fun t ht hW => ⟨⟨v18, w_1, rfl, ⟨(by omega), (by omega), hw.2.2.2.2, hM⟩, by rw [ht]; exact hw.2.1, va_K.moved hW.alike hw.1, hw.2.2.1⟩, hw.2.2.2.1.F ht⟩) hw.2.2.2.1.2.2 dX2_firstFitting_19
  exact J2 _ _ _ _ ⟨ws, 0, hw, hM, (by decide), (by decide), (lv_sub hl [1, 0] rfl), rfl⟩
set_option maxHeartbeats 4000000 in
set_option maxRecDepth 100000 in
theorem t_X11_ruled (l : Launch) (dC : Nat → ClassId) (dI : Nat → Nat → Nat) (tys : List (ClassId × FieldType)) (κ : tK) (B : Nat) (ws : va_W) (hT : Ty κ tys B ws) (a0 : Nat) (k_a0 : κ a0 = some 11) (a1 : Int32) (sz : Nat) : Met l yX11_ruled (ws_u yX11_ruled cX11_ruled 2 (some .int)) ({ frames := 7, cells := 0, slots := 0, locals := 170 }) (va_Pc [.ref a0, .int a1] (cPre (dC, dI) tys ws sz)) (va_Qi (fun (r : Int32) (w : va_W) => (-3) ≤ r.toInt ∧ r.toInt ≤ 63 ∧ Ty κ tys B w ∧ Sm [(2, 4), (5, 0), (5, 1), (5, 5), (8, 0), (8, 1), (8, 2), (8, 3), (8, 4), (8, 5), (8, 6)] [30, 31, 33, 34, 35, 36, 42, 43, 44, 45, 46, 47, 48] κ ws w) (fun w t => cPost (dC, dI) tys w (va_A ws sz) t) (va_A ws sz)) 0 0 (va_A ws sz) := by
  refine Met.ofW (cc := cX11_ruled) (maxL := 2) (ret := (some .int)) (by decide) rfl ?_
  intro p e s m args below meth c s₁ B0 hml hv
  obtain ⟨rfl, hsz, hP, hK, hD0, hE⟩ := hv
  have hx := B0.exec
  have hb := B0.bytes
  have hr := B0.returns
  have hts0 := atoms_spec (ws := ws_u yX11_ruled cX11_ruled 2 (some .int)) B0.pre
  have hts : ∀ w ∈ gT, w.before _ s = true := fun w h => hts0 w (List.mem_cons_of_mem _ h)
  have hown : s.vm.findClass RX11 = some m.cls := findClass_of_methodNamed B0.named
  have hlocks := B0.notSynchronized
  subst hsz
  have hD := hD0.self (sz := s.heap.size)
  generalize hAe : va_A ws s.heap.size = A at hD ⊢
  have hA : ∀ q : Nat, s.heap.size ≤ q → A q := fun q h => by rw [← hAe]; exact Or.inr h
  have hw : tW (dC, dI) tys κ B A s ws s.heap [] := ⟨hK, hP, hD, va_S.rf, hT⟩
  have hM : Sm [(2, 4), (5, 0), (5, 1), (5, 5), (8, 0), (8, 1), (8, 2), (8, 3), (8, 4), (8, 5), (8, 6)] [30, 31, 33, 34, 35, 36, 42, 43, 44, 45, 46, 47, 48] κ ws ws := Sm.rf
  clear hP hK hD hD0 hts0
  have l_a1 := i32_lo a1
  have h_a1 := i32_hi a1
  have hl := lv_entry ([.ref a0, .int a1]) (n := 2) (Nat.le_of_ble_eq_true rfl)
  rw [lg_entry_eq]
  generalize (lg_sl ([.ref a0, .int a1]) ++ List.replicate (2 - (lg_sl ([.ref a0, .int a1])).length) Slot.unset).toArray = ls at hl ⊢
  have hl : lv_has ls 2 [(0, .ref a0), (1, .int a1)] := hl
  refine t_start (fun QQ hQ => ?_)
  refine lv_aload_n hx hb dX11_ruled_0 rfl (lv_at hl 0 rfl) ?_
  refine t_getr (k1 := 10) (ci := 11) (C := RX11) (T := TX11) (N := 12) hx hb hts iX11 hown hw k_a0 rfl rfl rfl 5 (by decide) (hts _ tw_428) (fun _ h9 => h9) dX11_ruled_1 rfl (fun v1 k_v1 f_a0_X11_5 => ?_)
  refine t_getr (k1 := 0) (ci := 10) (C := RX10) (T := TX10) (N := 8) hx hb hts iX10 hown hw k_v1 rfl rfl rfl 0 (by decide) (hts _ tw_282) (fun _ h9 => h9) dX11_ruled_4 rfl (fun v4 k_v4 f_v1_X10_0 => ?_)
  refine t_geti (ci := 0) (C := RX0) (T := TX0) (N := 16) hx hb hts iX0 hown hw k_v4 rfl rfl rfl 0 (by decide) (hts _ tw_69) (fun _ h9 => h9) dX11_ruled_7 rfl (fun v7 l_v7 h_v7 f_v4_X0_0 => ?_)
  have l_v7 : 0 ≤ v7.toInt := l_v7
  have h_v7 : v7.toInt ≤ 1 := h_v7
  refine lv_if_eq (tgt := 22) hx hb dX11_ruled_10 (by decide) (fun c_10 => ?_) (fun c_10 => ?_)
  · simp only [fa_lt, fa_le, fa_eq, li_0] at c_10
    refine lv_bipush (v := (-3)) hx hb dX11_ruled_22 (by decide) ?_
    rw [hQ]
    refine W.widen (k := 0) (n := 0) (Nat.le_refl _) (Nat.le_refl _) ?_
    exact W.iret (v := (-3)) hx hb hr (fun t ht hW => ⟨⟨(-3), ws, rfl, ⟨(by decide), (by decide), hw.2.2.2.2, hM⟩, by rw [ht]; exact hw.2.1, va_K.moved hW.alike hw.1, hw.2.2.1⟩, hw.2.2.2.1.F ht⟩) hw.2.2.2.1.2.2 dX11_ruled_24
  · simp only [fa_lt, fa_le, fa_eq, li_0] at c_10
    refine lv_iload_n hx hb dX11_ruled_13 rfl (lv_at hl 1 rfl) ?_
    refine lv_if_lt (tgt := 22) hx hb dX11_ruled_14 (by decide) (fun c_14 => ?_) (fun c_14 => ?_)
    · simp only [fa_lt, fa_le, fa_eq, li_0] at c_14
      refine lv_bipush (v := (-3)) hx hb dX11_ruled_22 (by decide) ?_
      rw [hQ]
      refine W.widen (k := 0) (n := 0) (Nat.le_refl _) (Nat.le_refl _) ?_
      exact W.iret (v := (-3)) hx hb hr (fun t ht hW => ⟨⟨(-3), ws, rfl, ⟨(by decide), (by decide), hw.2.2.2.2, hM⟩, by rw [ht]; exact hw.2.1, va_K.moved hW.alike hw.1, hw.2.2.1⟩, hw.2.2.2.1.F ht⟩) hw.2.2.2.1.2.2 dX11_ruled_24
    · simp only [fa_lt, fa_le, fa_eq, li_0] at c_14
      refine lv_iload_n hx hb dX11_ruled_17 rfl (lv_at hl 1 rfl) ?_
      refine lv_iconst (v := 1) hx hb dX11_ruled_18 (by decide) ?_
      refine lv_icmp_le (tgt := 25) hx hb dX11_ruled_19 (by decide) (fun c_19 => ?_) (fun c_19 => ?_)
      · simp only [fa_lt, fa_le, fa_eq, li_1] at c_19
        refine lv_aload_n hx hb dX11_ruled_25 rfl (lv_at hl 0 rfl) ?_
        refine t_getr (k1 := 2) (ci := 11) (C := RX11) (T := TX11) (N := 12) hx hb hts iX11 hown hw k_a0 rfl rfl rfl 10 (by decide) (hts _ tw_433) (fun _ h9 => h9) dX11_ruled_26 rfl (fun v26 k_v26 f_a0_X11_10 => ?_)
        refine lv_aload_n hx hb dX11_ruled_29 rfl (lv_at hl 0 rfl) ?_
        refine t_getk (ci := 11) (C := RX11) (T := TX11) (N := 12) hx hb hts iX11 hown hw rfl 5 (by decide) (hts _ tw_428) (fun _ h9 => h9) dX11_ruled_30 f_a0_X11_5 ?_
        refine lv_aload_n hx hb dX11_ruled_33 rfl (lv_at hl 0 rfl) ?_
        refine t_getr (k1 := 52) (ci := 11) (C := RX11) (T := TX11) (N := 12) hx hb hts iX11 hown hw k_a0 rfl rfl rfl 3 (by decide) (hts _ tw_426) (fun _ h9 => h9) dX11_ruled_34 rfl (fun v34 k_v34 f_a0_X11_3 => ?_)
        refine lv_aload_n hx hb dX11_ruled_37 rfl (lv_at hl 0 rfl) ?_
        refine t_geti (ci := 11) (C := RX11) (T := TX11) (N := 12) hx hb hts iX11 hown hw k_a0 rfl rfl rfl 4 (by decide) (hts _ tw_427) (fun _ h9 => h9) dX11_ruled_38 rfl (fun v38 l_v38 h_v38 f_a0_X11_4 => ?_)
        have l_v38 : 0 ≤ v38.toInt := l_v38
        have h_v38 : v38.toInt ≤ 6 := h_v38
        refine t_callv (va_runV (As := [.ref v1, .ref v34, .int v38]) (rest := []) ⟨hx, hb, hml, hown, hts⟩ (t_X2_study l dC dI tys κ B ws hw.2.2.2.2 v26 k_v26 v1 k_v1 v34 k_v34 v38 (by omega) (by omega) s.heap.size) (cwV 3 hts (gUV tw_1023 tw_1024 tw_1025 tw_12 tw_1026) rfl rfl rfl (by decide +kernel) ⟨(Nat.le_of_ble_eq_true rfl), (Nat.le_of_ble_eq_true rfl)⟩) ⟨cPre.blind, t_recv hw (ci := 2) k_v26 rfl rfl, cPre.use hw.2.1 hw.1 hw.2.2.1 hE⟩ rfl rfl hl.1 rfl (lv_room (Nat.le_of_ble_eq_true rfl)) dX11_ruled_41 ⟨(Nat.le_of_ble_eq_true rfl), (Nat.le_of_ble_eq_true rfl)⟩) hw hA (fun _ h => h.1) (fun w_1 H locs hp hw => ?_)
        obtain ⟨_, hm⟩ := hp
        have hM := hM.trans hm (by decide) (by decide)
        have f_a0_X11_5 := hm.1 _ _ _ _ f_a0_X11_5 (by decide)
        have f_v1_X10_0 := hm.1 _ _ _ _ f_v1_X10_0 (by decide)
        have f_v4_X0_0 := hm.1 _ _ _ _ f_v4_X0_0 (by decide)
        have f_a0_X11_10 := hm.1 _ _ _ _ f_a0_X11_10 (by decide)
        have f_a0_X11_3 := hm.1 _ _ _ _ f_a0_X11_3 (by decide)
        have f_a0_X11_4 := hm.1 _ _ _ _ f_a0_X11_4 (by decide)
        refine lv_iload_n hx hb dX11_ruled_44 rfl (lv_at hl 1 rfl) ?_
        refine lv_if_ne (tgt := 61) hx hb dX11_ruled_45 (by decide) (fun c_45 => ?_) (fun c_45 => ?_)
        · simp only [fa_lt, fa_le, fa_eq, li_0] at c_45
          refine lv_aload_n hx hb dX11_ruled_61 rfl (lv_at hl 0 rfl) ?_
          refine t_getk (ci := 11) (C := RX11) (T := TX11) (N := 12) hx hb hts iX11 hown hw rfl 10 (by decide) (hts _ tw_433) (fun _ h9 => h9) dX11_ruled_62 f_a0_X11_10 ?_
          refine t_calli (va_runV (As := []) (rest := []) ⟨hx, hb, hml, hown, hts⟩ (t_X2_firstFitting l dC dI tys κ B w_1 hw.2.2.2.2 v26 k_v26 H.size) (cwV 0 hts (gUV tw_1037 tw_1038 tw_1039 tw_12 tw_1040) rfl rfl rfl (by decide +kernel) ⟨(Nat.le_of_ble_eq_true rfl), (Nat.le_of_ble_eq_true rfl)⟩) ⟨cPre.blind, t_recv hw (ci := 2) k_v26 rfl rfl, cPre.use hw.2.1 hw.1 hw.2.2.1 hE⟩ rfl rfl hl.1 rfl (lv_room (Nat.le_of_ble_eq_true rfl)) dX11_ruled_65 ⟨(Nat.le_of_ble_eq_true rfl), (Nat.le_of_ble_eq_true rfl)⟩) hw hA (fun _ _ h => h.2.2.1) (fun v65 w_2 H locs hp hw => ?_)
          obtain ⟨l_v65, h_v65, _, hm⟩ := hp
          have hM := hM.trans hm (by decide) (by decide)
          have f_a0_X11_5 := hm.1 _ _ _ _ f_a0_X11_5 (by decide)
          have f_v1_X10_0 := hm.1 _ _ _ _ f_v1_X10_0 (by decide)
          have f_v4_X0_0 := hm.1 _ _ _ _ f_v4_X0_0 (by decide)
          have f_a0_X11_10 := hm.1 _ _ _ _ f_a0_X11_10 (by decide)
          have f_a0_X11_3 := hm.1 _ _ _ _ f_a0_X11_3 (by decide)
          have f_a0_X11_4 := hm.1 _ _ _ _ f_a0_X11_4 (by decide)
          rw [hQ]
          refine W.widen (k := 0) (n := 0) (Nat.le_refl _) (Nat.le_refl _) ?_
          exact W.iret (v := v65) hx hb hr (fun t ht hW => ⟨⟨v65, w_2, rfl, ⟨(by omega), (by omega), hw.2.2.2.2, hM⟩, by rw [ht]; exact hw.2.1, va_K.moved hW.alike hw.1, hw.2.2.1⟩, hw.2.2.2.1.F ht⟩) hw.2.2.2.1.2.2 dX11_ruled_68
        · simp only [fa_lt, fa_le, fa_eq, li_0] at c_45
          refine lv_aload_n hx hb dX11_ruled_48 rfl (lv_at hl 0 rfl) ?_
          refine t_getk (ci := 11) (C := RX11) (T := TX11) (N := 12) hx hb hts iX11 hown hw rfl 10 (by decide) (hts _ tw_433) (fun _ h9 => h9) dX11_ruled_49 f_a0_X11_10 ?_
          refine t_geti (ci := 2) (C := RX2) (T := TX2) (N := 5) hx hb hts iX2 hown hw k_v26 rfl rfl rfl 4 (by decide) (hts _ tw_409) (fun _ h9 => h9) dX11_ruled_52 rfl (fun v52 l_v52 h_v52 f_v26_X2_4 => ?_)
          have l_v52 : (-2147483648) ≤ v52.toInt := l_v52
          have h_v52 : v52.toInt ≤ 2147483647 := h_v52
          refine t_calli (va_runS (As := [.int v52]) (rest := []) ⟨hx, hb, hml, hown, hts⟩ (t_J6_bitCount_0f7a4 l dC dI tys κ B w_1 hw.2.2.2.2 v52 H.size) (va_cwS 1 hts (gUS tw_949 tw_773 tw_21 tw_774) rfl rfl rfl (by decide +kernel) ⟨(Nat.le_of_ble_eq_true rfl), (Nat.le_of_ble_eq_true rfl)⟩) ⟨cPre.blind, cPre.use hw.2.1 hw.1 hw.2.2.1 hE⟩ rfl rfl hl.1 rfl (lv_room (Nat.le_of_ble_eq_true rfl)) dX11_ruled_55 ⟨(Nat.le_of_ble_eq_true rfl), (Nat.le_of_ble_eq_true rfl)⟩) hw hA (fun _ _ h => h.2.2.1) (fun v55 w_3 H locs hp hw => ?_)
          obtain ⟨l_v55, h_v55, _, hm⟩ := hp
          have hM := hM.trans hm (by decide) (by decide)
          have f_a0_X11_5 := hm.1 _ _ _ _ f_a0_X11_5 (by decide)
          have f_v1_X10_0 := hm.1 _ _ _ _ f_v1_X10_0 (by decide)
          have f_v4_X0_0 := hm.1 _ _ _ _ f_v4_X0_0 (by decide)
          have f_a0_X11_10 := hm.1 _ _ _ _ f_a0_X11_10 (by decide)
          have f_a0_X11_3 := hm.1 _ _ _ _ f_a0_X11_3 (by decide)
          have f_a0_X11_4 := hm.1 _ _ _ _ f_a0_X11_4 (by decide)
          have f_v26_X2_4 := hm.1 _ _ _ _ f_v26_X2_4 (by decide)
          refine lv_goto (tgt := 68) hx hb dX11_ruled_58 (by decide) ?_
          rw [hQ]
          refine W.widen (k := 0) (n := 0) (Nat.le_refl _) (Nat.le_refl _) ?_
          exact W.iret (v := v55) hx hb hr (fun t ht hW => ⟨⟨v55, w_3, rfl, ⟨(by omega), (by omega), hw.2.2.2.2, hM⟩, by rw [ht]; exact hw.2.1, va_K.moved hW.alike hw.1, hw.2.2.1⟩, hw.2.2.2.1.F ht⟩) hw.2.2.2.1.2.2 dX11_ruled_68
      · simp only [fa_lt, fa_le, fa_eq, li_1] at c_19
        refine lv_bipush (v := (-3)) hx hb dX11_ruled_22 (by decide) ?_
        rw [hQ]
        refine W.widen (k := 0) (n := 0) (Nat.le_refl _) (Nat.le_refl _) ?_
        exact W.iret (v := (-3)) hx hb hr (fun t ht hW => ⟨⟨(-3), ws, rfl, ⟨(by decide), (by decide), hw.2.2.2.2, hM⟩, by rw [ht]; exact hw.2.1, va_K.moved hW.alike hw.1, hw.2.2.1⟩, hw.2.2.2.1.F ht⟩) hw.2.2.2.1.2.2 dX11_ruled_24
set_option maxHeartbeats 4000000 in
set_option maxRecDepth 100000 in
theorem t_X11_seed (l : Launch) (dC : Nat → ClassId) (dI : Nat → Nat → Nat) (tys : List (ClassId × FieldType)) (κ : tK) (B : Nat) (ws : va_W) (hT : Ty κ tys B ws) (a0 : Nat) (k_a0 : κ a0 = some 11) (a1 : Int32) (sz : Nat) : Met l yX11_seed (ws_u yX11_seed cX11_seed 3 (some .int)) ({ frames := 0, cells := 0, slots := 0, locals := 0 }) (va_Pc [.ref a0, .int a1] (cPre (dC, dI) tys ws sz)) (va_Qi (fun (r : Int32) (w : va_W) => Ty κ tys B w ∧ Sm [(10, 3)] [] κ ws w) (fun w t => cPost (dC, dI) tys w (va_A ws sz) t) (va_A ws sz)) 0 0 (va_A ws sz) := by
  refine Met.ofW (cc := cX11_seed) (maxL := 3) (ret := (some .int)) (by decide) rfl ?_
  intro p e s m args below meth c s₁ B0 hml hv
  obtain ⟨rfl, hsz, hP, hK, hD0, hE⟩ := hv
  have hx := B0.exec
  have hb := B0.bytes
  have hr := B0.returns
  have hts0 := atoms_spec (ws := ws_u yX11_seed cX11_seed 3 (some .int)) B0.pre
  have hts : ∀ w ∈ gT, w.before _ s = true := fun w h => hts0 w (List.mem_cons_of_mem _ h)
  have hown : s.vm.findClass RX11 = some m.cls := findClass_of_methodNamed B0.named
  have hlocks := B0.notSynchronized
  subst hsz
  have hD := hD0.self (sz := s.heap.size)
  generalize hAe : va_A ws s.heap.size = A at hD ⊢
  have hA : ∀ q : Nat, s.heap.size ≤ q → A q := fun q h => by rw [← hAe]; exact Or.inr h
  have hw : tW (dC, dI) tys κ B A s ws s.heap [] := ⟨hK, hP, hD, va_S.rf, hT⟩
  have hM : Sm [(10, 3)] [] κ ws ws := Sm.rf
  clear hP hK hD hD0 hts0
  have l_a1 := i32_lo a1
  have h_a1 := i32_hi a1
  have hl := lv_entry ([.ref a0, .int a1]) (n := 3) (Nat.le_of_ble_eq_true rfl)
  rw [lg_entry_eq]
  generalize (lg_sl ([.ref a0, .int a1]) ++ List.replicate (3 - (lg_sl ([.ref a0, .int a1])).length) Slot.unset).toArray = ls at hl ⊢
  have hl : lv_has ls 3 [(0, .ref a0), (1, .int a1)] := hl
  refine t_start (fun QQ hQ => ?_)
  refine lv_iload_n hx hb dX11_seed_0 rfl (lv_at hl 1 rfl) ?_
  refine lv_if_ge (tgt := 6) hx hb dX11_seed_1 (by decide) (fun c_1 => ?_) (fun c_1 => ?_)
  · simp only [fa_lt, fa_le, fa_eq, li_0] at c_1
    refine lv_aload_n hx hb dX11_seed_6 rfl (lv_at hl 0 rfl) ?_
    refine t_getr (k1 := 10) (ci := 11) (C := RX11) (T := TX11) (N := 12) hx hb hts iX11 hown hw k_a0 rfl rfl rfl 5 (by decide) (hts _ tw_428) (fun _ h9 => h9) dX11_seed_7 rfl (fun v7 k_v7 f_a0_X11_5 => ?_)
    refine t_geti (ci := 10) (C := RX10) (T := TX10) (N := 8) hx hb hts iX10 hown hw k_v7 rfl rfl rfl 3 (by decide) (hts _ tw_289) (fun _ h9 => h9) dX11_seed_10 rfl (fun v10 l_v10 h_v10 f_v7_X10_3 => ?_)
    have l_v10 : (-2147483648) ≤ v10.toInt := l_v10
    have h_v10 : v10.toInt ≤ 2147483647 := h_v10
    refine lv_istore_n (lv' := [(2, .int v10), (0, .ref a0), (1, .int a1)]) hx hb dX11_seed_13 rfl hl (by decide) rfl (fun ls hl => ?_)
    refine lv_aload_n hx hb dX11_seed_14 rfl (lv_at hl 1 rfl) ?_
    refine t_getk (ci := 11) (C := RX11) (T := TX11) (N := 12) hx hb hts iX11 hown hw rfl 5 (by decide) (hts _ tw_428) (fun _ h9 => h9) dX11_seed_15 f_a0_X11_5 ?_
    refine lv_iload_n hx hb dX11_seed_18 rfl (lv_at hl 2 rfl) ?_
    refine t_put (ci := 10) (C := RX10) (T := TX10) (N := 8) (v := .int a1) hx hb hts iX10 tyX10 tyX10_ok nmX10 hown hw k_v7 rfl rfl rfl 3 (by decide) (hts _ tw_289) (fun _ h9 => h9) rfl (tyX10_ok 3 (by decide)) rfl rfl (okV.int rfl (by omega) (by omega)) dX11_seed_19 (fun w_1 H locs hw u => ?_)
    have hM := hM.up1 u (by decide)
    have f_a0_X11_5 := u.1 _ _ _ _ f_a0_X11_5 (Or.inr (Or.inl (by decide)))
    have f_v7_X10_3 := u.2.2
    refine lv_iload_n hx hb dX11_seed_22 rfl (lv_at hl 0 rfl) ?_
    rw [hQ]
    refine W.widen (k := 0) (n := 0) (Nat.le_refl _) (Nat.le_refl _) ?_
    exact W.iret (v := v10) hx hb hr (fun t ht hW => ⟨⟨v10, w_1, rfl, ⟨hw.2.2.2.2, hM⟩, by rw [ht]; exact hw.2.1, va_K.moved hW.alike hw.1, hw.2.2.1⟩, hw.2.2.2.1.F ht⟩) hw.2.2.2.1.2.2 dX11_seed_23
  · simp only [fa_lt, fa_le, fa_eq, li_0] at c_1
    refine lv_iconst (v := (-1)) hx hb dX11_seed_4 (by decide) ?_
    rw [hQ]
    refine W.widen (k := 0) (n := 0) (Nat.le_refl _) (Nat.le_refl _) ?_
    exact W.iret (v := (-1)) hx hb hr (fun t ht hW => ⟨⟨(-1), ws, rfl, ⟨hw.2.2.2.2, hM⟩, by rw [ht]; exact hw.2.1, va_K.moved hW.alike hw.1, hw.2.2.1⟩, hw.2.2.2.1.F ht⟩) hw.2.2.2.1.2.2 dX11_seed_5
set_option maxHeartbeats 4000000 in
set_option maxRecDepth 100000 in
theorem t_X4_takeBack (l : Launch) (dC : Nat → ClassId) (dI : Nat → Nat → Nat) (tys : List (ClassId × FieldType)) (κ : tK) (B : Nat) (ws : va_W) (hT : Ty κ tys B ws) (a0 : Nat) (k_a0 : κ a0 = some 4) (a1 : Nat) (k_a1 : κ a1 = some 8) (sz : Nat) : Met l yX4_takeBack (ws_u yX4_takeBack cX4_takeBack 2 (some .boolean)) ({ frames := 2, cells := 0, slots := 0, locals := 81 }) (va_Pc [.ref a0, .ref a1] (cPre (dC, dI) tys ws sz)) (va_Qi (fun (r : Int32) (w : va_W) => 0 ≤ r.toInt ∧ r.toInt ≤ 1 ∧ Ty κ tys B w ∧ Sm [(4, 1), (4, 2), (8, 0), (8, 1), (8, 2), (8, 3), (8, 4), (8, 5), (8, 6)] [43, 44, 45, 46, 47, 48] κ ws w) (fun w t => cPost (dC, dI) tys w (va_A ws sz) t) (va_A ws sz)) 0 0 (va_A ws sz) := by
  refine Met.ofW (cc := cX4_takeBack) (maxL := 2) (ret := (some .boolean)) (by decide) rfl ?_
  intro p e s m args below meth c s₁ B0 hml hv
  obtain ⟨rfl, hsz, hP, hK, hD0, hE⟩ := hv
  have hx := B0.exec
  have hb := B0.bytes
  have hr := B0.returns
  have hts0 := atoms_spec (ws := ws_u yX4_takeBack cX4_takeBack 2 (some .boolean)) B0.pre
  have hts : ∀ w ∈ gT, w.before _ s = true := fun w h => hts0 w (List.mem_cons_of_mem _ h)
  have hown : s.vm.findClass RX4 = some m.cls := findClass_of_methodNamed B0.named
  have hlocks := B0.notSynchronized
  subst hsz
  have hD := hD0.self (sz := s.heap.size)
  generalize hAe : va_A ws s.heap.size = A at hD ⊢
  have hA : ∀ q : Nat, s.heap.size ≤ q → A q := fun q h => by rw [← hAe]; exact Or.inr h
  have hw : tW (dC, dI) tys κ B A s ws s.heap [] := ⟨hK, hP, hD, va_S.rf, hT⟩
  have hM : Sm [(4, 1), (4, 2), (8, 0), (8, 1), (8, 2), (8, 3), (8, 4), (8, 5), (8, 6)] [43, 44, 45, 46, 47, 48] κ ws ws := Sm.rf
  clear hP hK hD hD0 hts0
  have hl := lv_entry ([.ref a0, .ref a1]) (n := 2) (Nat.le_of_ble_eq_true rfl)
  rw [lg_entry_eq]
  generalize (lg_sl ([.ref a0, .ref a1]) ++ List.replicate (2 - (lg_sl ([.ref a0, .ref a1])).length) Slot.unset).toArray = ls at hl ⊢
  have hl : lv_has ls 2 [(0, .ref a0), (1, .ref a1)] := hl
  refine t_start (fun QQ hQ => ?_)
  refine lv_aload_n hx hb dX4_takeBack_0 rfl (lv_at hl 0 rfl) ?_
  refine t_geti (ci := 4) (C := RX4) (T := TX4) (N := 3) hx hb hts iX4 hown hw k_a0 rfl rfl rfl 2 (by decide) (hts _ tw_329) (fun _ h9 => h9) dX4_takeBack_1 rfl (fun v1 l_v1 h_v1 f_a0_X4_2 => ?_)
  have l_v1 : (-2147483648) ≤ v1.toInt := l_v1
  have h_v1 : v1.toInt ≤ 2147483647 := h_v1
  refine lv_iconst (v := 1) hx hb dX4_takeBack_4 (by decide) ?_
  refine lv_icmp_ge (tgt := 10) hx hb dX4_takeBack_5 (by decide) (fun c_5 => ?_) (fun c_5 => ?_)
  · simp only [fa_lt, fa_le, fa_eq, li_1] at c_5
    refine lv_aload_n hx hb dX4_takeBack_10 rfl (lv_at hl 0 rfl) ?_
    refine lv_aload_n hx hb dX4_takeBack_11 rfl (lv_at hl 0 rfl) ?_
    refine t_geti (ci := 4) (C := RX4) (T := TX4) (N := 3) hx hb hts iX4 hown hw k_a0 rfl rfl rfl 1 (by decide) (hts _ tw_328) (fun _ h9 => h9) dX4_takeBack_12 rfl (fun v12 l_v12 h_v12 f_a0_X4_1 => ?_)
    have l_v12 : 0 ≤ v12.toInt := l_v12
    have h_v12 : v12.toInt ≤ 19 := h_v12
    refine lv_bipush (v := 20) hx hb dX4_takeBack_15 (by decide) ?_
    refine lv_iadd hx hb dX4_takeBack_17 ?_
    refine lv_topi (fun v17 e_v17 => ?_)
    have e_v17 : v17.toInt = v12.toInt + 20 := ad_i e_v17 rfl li_20 (by omega) (by omega)
    refine lv_iconst (v := 1) hx hb dX4_takeBack_18 (by decide) ?_
    refine lv_isub hx hb dX4_takeBack_19 ?_
    refine lv_topi (fun v19 e_v19 => ?_)
    have e_v19 : v19.toInt = v17.toInt - 1 := sb_i e_v19 rfl li_1 (by omega) (by omega)
    refine lv_bipush (v := 20) hx hb dX4_takeBack_20 (by decide) ?_
    refine lv_irem hx hb dX4_takeBack_22 (ne_i li_20 (by decide)) ?_
    refine lv_topi (fun v22 e_v22 => ?_)
    have e_v22 : v22.toInt = v19.toInt % 20 := rm_i e_v22 rfl li_20 (by omega) (by decide)
    refine t_put (ci := 4) (C := RX4) (T := TX4) (N := 3) (v := .int v22) hx hb hts iX4 tyX4 tyX4_ok nmX4 hown hw k_a0 rfl rfl rfl 1 (by decide) (hts _ tw_328) (fun _ h9 => h9) rfl (tyX4_ok 1 (by decide)) rfl rfl (okV.int rfl (by omega) (by omega)) dX4_takeBack_23 (fun w_1 H locs hw u => ?_)
    have hM := hM.up1 u (by decide)
    have f_a0_X4_2 := u.1 _ _ _ _ f_a0_X4_2 (Or.inr (Or.inr (by decide)))
    have f_a0_X4_1 := u.2.2
    refine lv_aload_n hx hb dX4_takeBack_26 rfl (lv_at hl 0 rfl) ?_
    refine lv_dup hx hb dX4_takeBack_27 rfl ?_
    refine t_getk (ci := 4) (C := RX4) (T := TX4) (N := 3) hx hb hts iX4 hown hw rfl 2 (by decide) (hts _ tw_329) (fun _ h9 => h9) dX4_takeBack_28 f_a0_X4_2 ?_
    refine lv_iconst (v := 1) hx hb dX4_takeBack_31 (by decide) ?_
    refine lv_isub hx hb dX4_takeBack_32 ?_
    refine lv_topi (fun v32 e_v32 => ?_)
    have e_v32 : v32.toInt = v1.toInt - 1 := sb_i e_v32 rfl li_1 (by omega) (by omega)
    refine t_put (ci := 4) (C := RX4) (T := TX4) (N := 3) (v := .int v32) hx hb hts iX4 tyX4 tyX4_ok nmX4 hown hw k_a0 rfl rfl rfl 2 (by decide) (hts _ tw_329) (fun _ h9 => h9) rfl (tyX4_ok 2 (by decide)) rfl rfl (okV.int rfl (by omega) (by omega)) dX4_takeBack_33 (fun w_2 H locs hw u => ?_)
    have hM := hM.up1 u (by decide)
    have f_a0_X4_2 := u.2.2
    have f_a0_X4_1 := u.1 _ _ _ _ f_a0_X4_1 (Or.inr (Or.inr (by decide)))
    refine lv_aload_n hx hb dX4_takeBack_36 rfl (lv_at hl 1 rfl) ?_
    refine lv_aload_n hx hb dX4_takeBack_37 rfl (lv_at hl 0 rfl) ?_
    refine t_getr (k1 := 32) (ci := 4) (C := RX4) (T := TX4) (N := 3) hx hb hts iX4 hown hw k_a0 rfl rfl rfl 0 (by decide) (hts _ tw_327) (fun _ h9 => h9) dX4_takeBack_38 rfl (fun v38 k_v38 f_a0_X4_0 => ?_)
    refine lv_aload_n hx hb dX4_takeBack_41 rfl (lv_at hl 0 rfl) ?_
    refine t_getk (ci := 4) (C := RX4) (T := TX4) (N := 3) hx hb hts iX4 hown hw rfl 1 (by decide) (hts _ tw_328) (fun _ h9 => h9) dX4_takeBack_42 f_a0_X4_1 ?_
    refine t_aald (C := RX8) hx hb hw k_v38 rfl rfl (by omega) (show v22.toInt < 20 by omega) dX4_takeBack_45 (fun v45 k_v45 => ?_)
    have k_v45 : κ v45 = some 8 := k_v45
    obtain ⟨u_v46q0, q_v46q0, f_v45_X8_1⟩ := t_peek (k := 1) hw.2.2.2.2 k_v45 rfl (by decide)
    obtain ⟨v46q0, rfl, l_v46q0, h_v46q0⟩ := q_v46q0.geti (lo := (-1)) (hi := 5) rfl
    refine t_callv (va_runV (As := [.ref v45]) (rest := []) ⟨hx, hb, hml, hown, hts⟩ (t_X8_copyFrom l dC dI tys κ B w_2 hw.2.2.2.2 a1 k_a1 v45 k_v45 v46q0 (by omega) (by omega) f_v45_X8_1 H.size) (cwV 1 hts (gUV tw_751 tw_752 tw_753 tw_8 tw_754) rfl rfl rfl (by decide +kernel) ⟨(Nat.le_of_ble_eq_true rfl), (Nat.le_of_ble_eq_true rfl)⟩) ⟨cPre.blind, t_recv hw (ci := 8) k_a1 rfl rfl, cPre.use hw.2.1 hw.1 hw.2.2.1 hE⟩ rfl rfl hl.1 rfl (lv_room (Nat.le_of_ble_eq_true rfl)) dX4_takeBack_46 ⟨(Nat.le_of_ble_eq_true rfl), (Nat.le_of_ble_eq_true rfl)⟩) hw hA (fun _ h => h.1) (fun w_3 H locs hp hw => ?_)
    obtain ⟨_, hm, f_v45_X8_1⟩ := hp
    have hM := hM.trans hm (by decide) (by decide)
    have f_a0_X4_2 := hm.1 _ _ _ _ f_a0_X4_2 (by decide)
    have f_a0_X4_1 := hm.1 _ _ _ _ f_a0_X4_1 (by decide)
    have f_a0_X4_0 := hm.1 _ _ _ _ f_a0_X4_0 (by decide)
    refine lv_iconst (v := 1) hx hb dX4_takeBack_49 (by decide) ?_
    rw [hQ]
    refine W.widen (k := 0) (n := 0) (Nat.le_refl _) (Nat.le_refl _) ?_
    exact W.zret (v := 1) hx hb hr rfl (fun t ht hW => ⟨⟨1, w_3, rfl, ⟨(by decide), (by decide), hw.2.2.2.2, hM⟩, by rw [ht]; exact hw.2.1, va_K.moved hW.alike hw.1, hw.2.2.1⟩, hw.2.2.2.1.F ht⟩) hw.2.2.2.1.2.2 dX4_takeBack_50
  · simp only [fa_lt, fa_le, fa_eq, li_1] at c_5
    refine lv_iconst (v := 0) hx hb dX4_takeBack_8 (by decide) ?_
    rw [hQ]
    refine W.widen (k := 0) (n := 0) (Nat.le_refl _) (Nat.le_refl _) ?_
    exact W.zret (v := 0) hx hb hr rfl (fun t ht hW => ⟨⟨0, ws, rfl, ⟨(by decide), (by decide), hw.2.2.2.2, hM⟩, by rw [ht]; exact hw.2.1, va_K.moved hW.alike hw.1, hw.2.2.1⟩, hw.2.2.2.1.F ht⟩) hw.2.2.2.1.2.2 dX4_takeBack_9
set_option maxHeartbeats 4000000 in
set_option maxRecDepth 100000 in
theorem t_X11_undo (l : Launch) (dC : Nat → ClassId) (dI : Nat → Nat → Nat) (tys : List (ClassId × FieldType)) (κ : tK) (B : Nat) (ws : va_W) (hT : Ty κ tys B ws) (a0 : Nat) (k_a0 : κ a0 = some 11) (sz : Nat) : Met l yX11_undo (ws_u yX11_undo cX11_undo 1 (some .int)) ({ frames := 3, cells := 0, slots := 0, locals := 102 }) (va_Pc [.ref a0] (cPre (dC, dI) tys ws sz)) (va_Qi (fun (r : Int32) (w : va_W) => Ty κ tys B w ∧ Sm [(4, 1), (4, 2), (8, 0), (8, 1), (8, 2), (8, 3), (8, 4), (8, 5), (8, 6)] [43, 44, 45, 46, 47, 48] κ ws w) (fun w t => cPost (dC, dI) tys w (va_A ws sz) t) (va_A ws sz)) 0 0 (va_A ws sz) := by
  refine Met.ofW (cc := cX11_undo) (maxL := 1) (ret := (some .int)) (by decide) rfl ?_
  intro p e s m args below meth c s₁ B0 hml hv
  obtain ⟨rfl, hsz, hP, hK, hD0, hE⟩ := hv
  have hx := B0.exec
  have hb := B0.bytes
  have hr := B0.returns
  have hts0 := atoms_spec (ws := ws_u yX11_undo cX11_undo 1 (some .int)) B0.pre
  have hts : ∀ w ∈ gT, w.before _ s = true := fun w h => hts0 w (List.mem_cons_of_mem _ h)
  have hown : s.vm.findClass RX11 = some m.cls := findClass_of_methodNamed B0.named
  have hlocks := B0.notSynchronized
  subst hsz
  have hD := hD0.self (sz := s.heap.size)
  generalize hAe : va_A ws s.heap.size = A at hD ⊢
  have hA : ∀ q : Nat, s.heap.size ≤ q → A q := fun q h => by rw [← hAe]; exact Or.inr h
  have hw : tW (dC, dI) tys κ B A s ws s.heap [] := ⟨hK, hP, hD, va_S.rf, hT⟩
  have hM : Sm [(4, 1), (4, 2), (8, 0), (8, 1), (8, 2), (8, 3), (8, 4), (8, 5), (8, 6)] [43, 44, 45, 46, 47, 48] κ ws ws := Sm.rf
  clear hP hK hD hD0 hts0
  have hl := lv_entry ([.ref a0]) (n := 1) (Nat.le_of_ble_eq_true rfl)
  rw [lg_entry_eq]
  generalize (lg_sl ([.ref a0]) ++ List.replicate (1 - (lg_sl ([.ref a0])).length) Slot.unset).toArray = ls at hl ⊢
  have hl : lv_has ls 1 [(0, .ref a0)] := hl
  refine t_start (fun QQ hQ => ?_)
  refine lv_aload_n hx hb dX11_undo_0 rfl (lv_at hl 0 rfl) ?_
  refine t_getr (k1 := 4) (ci := 11) (C := RX11) (T := TX11) (N := 12) hx hb hts iX11 hown hw k_a0 rfl rfl rfl 7 (by decide) (hts _ tw_430) (fun _ h9 => h9) dX11_undo_1 rfl (fun v1 k_v1 f_a0_X11_7 => ?_)
  refine lv_aload_n hx hb dX11_undo_4 rfl (lv_at hl 0 rfl) ?_
  refine t_getr (k1 := 10) (ci := 11) (C := RX11) (T := TX11) (N := 12) hx hb hts iX11 hown hw k_a0 rfl rfl rfl 5 (by decide) (hts _ tw_428) (fun _ h9 => h9) dX11_undo_5 rfl (fun v5 k_v5 f_a0_X11_5 => ?_)
  refine t_getr (k1 := 8) (ci := 10) (C := RX10) (T := TX10) (N := 8) hx hb hts iX10 hown hw k_v5 rfl rfl rfl 1 (by decide) (hts _ tw_285) (fun _ h9 => h9) dX11_undo_8 rfl (fun v8 k_v8 f_v5_X10_1 => ?_)
  refine t_calli (va_runV (As := [.ref v8]) (rest := []) ⟨hx, hb, hml, hown, hts⟩ (t_X4_takeBack l dC dI tys κ B ws hw.2.2.2.2 v1 k_v1 v8 k_v8 s.heap.size) (cwV 1 hts (gUV tw_886 tw_887 tw_888 tw_9 tw_889) rfl rfl rfl (by decide +kernel) ⟨(Nat.le_of_ble_eq_true rfl), (Nat.le_of_ble_eq_true rfl)⟩) ⟨cPre.blind, t_recv hw (ci := 4) k_v1 rfl rfl, cPre.use hw.2.1 hw.1 hw.2.2.1 hE⟩ rfl rfl hl.1 rfl (lv_room (Nat.le_of_ble_eq_true rfl)) dX11_undo_11 ⟨(Nat.le_of_ble_eq_true rfl), (Nat.le_of_ble_eq_true rfl)⟩) hw hA (fun _ _ h => h.2.2.1) (fun v11 w_1 H locs hp hw => ?_)
  obtain ⟨l_v11, h_v11, _, hm⟩ := hp
  have hM := hM.trans hm (by decide) (by decide)
  have f_a0_X11_7 := hm.1 _ _ _ _ f_a0_X11_7 (by decide)
  have f_a0_X11_5 := hm.1 _ _ _ _ f_a0_X11_5 (by decide)
  have f_v5_X10_1 := hm.1 _ _ _ _ f_v5_X10_1 (by decide)
  refine lv_if_eq (tgt := 27) hx hb dX11_undo_14 (by decide) (fun c_14 => ?_) (fun c_14 => ?_)
  · simp only [fa_lt, fa_le, fa_eq, li_0] at c_14
    refine lv_iconst (v := (-1)) hx hb dX11_undo_27 (by decide) ?_
    rw [hQ]
    refine W.widen (k := 0) (n := 0) (Nat.le_refl _) (Nat.le_refl _) ?_
    exact W.iret (v := (-1)) hx hb hr (fun t ht hW => ⟨⟨(-1), w_1, rfl, ⟨hw.2.2.2.2, hM⟩, by rw [ht]; exact hw.2.1, va_K.moved hW.alike hw.1, hw.2.2.1⟩, hw.2.2.2.1.F ht⟩) hw.2.2.2.1.2.2 dX11_undo_28
  · simp only [fa_lt, fa_le, fa_eq, li_0] at c_14
    refine lv_aload_n hx hb dX11_undo_17 rfl (lv_at hl 0 rfl) ?_
    refine t_getk (ci := 11) (C := RX11) (T := TX11) (N := 12) hx hb hts iX11 hown hw rfl 7 (by decide) (hts _ tw_430) (fun _ h9 => h9) dX11_undo_18 f_a0_X11_7 ?_
    refine t_geti (ci := 4) (C := RX4) (T := TX4) (N := 3) hx hb hts iX4 hown hw k_v1 rfl rfl rfl 2 (by decide) (hts _ tw_330) (fun _ h9 => h9) dX11_undo_21 rfl (fun v21 l_v21 h_v21 f_v1_X4_2 => ?_)
    have l_v21 : (-2147483648) ≤ v21.toInt := l_v21
    have h_v21 : v21.toInt ≤ 2147483647 := h_v21
    refine lv_goto (tgt := 28) hx hb dX11_undo_24 (by decide) ?_
    rw [hQ]
    refine W.widen (k := 0) (n := 0) (Nat.le_refl _) (Nat.le_refl _) ?_
    exact W.iret (v := v21) hx hb hr (fun t ht hW => ⟨⟨v21, w_1, rfl, ⟨hw.2.2.2.2, hM⟩, by rw [ht]; exact hw.2.1, va_K.moved hW.alike hw.1, hw.2.2.1⟩, hw.2.2.2.1.F ht⟩) hw.2.2.2.1.2.2 dX11_undo_28
set_option maxHeartbeats 4000000 in
set_option maxRecDepth 100000 in
theorem t_X8_fetch (l : Launch) (dC : Nat → ClassId) (dI : Nat → Nat → Nat) (tys : List (ClassId × FieldType)) (κ : tK) (B : Nat) (ws : va_W) (hT : Ty κ tys B ws) (a0 : Nat) (k_a0 : κ a0 = some 8) (a1 : Int32) (l_a1 : 0 ≤ a1.toInt) (h_a1 : a1.toInt ≤ 5) (f0 : Int32) (l_f0 : 0 ≤ f0.toInt) (h_f0 : f0.toInt ≤ 5) (f_a0_X8_1 : fld ws a0 8 1 (.int f0)) (sz : Nat) : Met l yX8_fetch (ws_u yX8_fetch cX8_fetch 4 (some .int)) ({ frames := 1, cells := 0, slots := 0, locals := 40 }) (va_Pc [.ref a0, .int a1] (cPre (dC, dI) tys ws sz)) (va_Qi (fun (r : Int32) (w : va_W) => Ty κ tys B w ∧ Sm [(8, 3), (8, 4), (8, 5)] [48] κ ws w) (fun w t => cPost (dC, dI) tys w (va_A ws sz) t) (va_A ws sz)) 0 0 (va_A ws sz) := by
  refine Met.ofW (cc := cX8_fetch) (maxL := 4) (ret := (some .int)) (by decide) rfl ?_
  intro p e s m args below meth c s₁ B0 hml hv
  obtain ⟨rfl, hsz, hP, hK, hD0, hE⟩ := hv
  have hx := B0.exec
  have hb := B0.bytes
  have hr := B0.returns
  have hts0 := atoms_spec (ws := ws_u yX8_fetch cX8_fetch 4 (some .int)) B0.pre
  have hts : ∀ w ∈ gT, w.before _ s = true := fun w h => hts0 w (List.mem_cons_of_mem _ h)
  have hown : s.vm.findClass RX8 = some m.cls := findClass_of_methodNamed B0.named
  have hlocks := B0.notSynchronized
  subst hsz
  have hD := hD0.self (sz := s.heap.size)
  generalize hAe : va_A ws s.heap.size = A at hD ⊢
  have hA : ∀ q : Nat, s.heap.size ≤ q → A q := fun q h => by rw [← hAe]; exact Or.inr h
  have hw : tW (dC, dI) tys κ B A s ws s.heap [] := ⟨hK, hP, hD, va_S.rf, hT⟩
  have hM : Sm [(8, 3), (8, 4), (8, 5)] [48] κ ws ws := Sm.rf
  clear hP hK hD hD0 hts0
  have hl := lv_entry ([.ref a0, .int a1]) (n := 4) (Nat.le_of_ble_eq_true rfl)
  rw [lg_entry_eq]
  generalize (lg_sl ([.ref a0, .int a1]) ++ List.replicate (4 - (lg_sl ([.ref a0, .int a1])).length) Slot.unset).toArray = ls at hl ⊢
  have hl : lv_has ls 4 [(0, .ref a0), (1, .int a1)] := hl
  refine t_start (fun QQ hQ => ?_)
  refine lv_aload_n hx hb dX8_fetch_0 rfl (lv_at hl 0 rfl) ?_
  refine t_getr (k1 := 48) (ci := 8) (C := RX8) (T := TX8) (N := 13) hx hb hts iX8 hown hw k_a0 rfl rfl rfl 12 (by decide) (hts _ tw_252) (fun _ h9 => h9) dX8_fetch_1 rfl (fun v1 k_v1 f_a0_X8_12 => ?_)
  refine lv_iload_n hx hb dX8_fetch_4 rfl (lv_at hl 1 rfl) ?_
  refine t_iald hx hb hw k_v1 rfl rfl (by omega) (show a1.toInt < 6 by omega) dX8_fetch_5 (fun v5 r_v5 s_v5 q_v5 => ?_)
  have l_v5 := i32_lo v5
  have h_v5 := i32_hi v5
  refine lv_aload_n hx hb dX8_fetch_6 rfl (lv_at hl 0 rfl) ?_
  refine t_getr (k1 := 44) (ci := 8) (C := RX8) (T := TX8) (N := 13) hx hb hts iX8 hown hw k_a0 rfl rfl rfl 8 (by decide) (hts _ tw_242) (fun _ h9 => h9) dX8_fetch_7 rfl (fun v7 k_v7 f_a0_X8_8 => ?_)
  refine lv_aload_n hx hb dX8_fetch_10 rfl (lv_at hl 0 rfl) ?_
  refine t_getk (ci := 8) (C := RX8) (T := TX8) (N := 13) hx hb hts iX8 hown hw rfl 1 (by decide) (hts _ tw_223) (fun _ h9 => h9) dX8_fetch_11 f_a0_X8_1 ?_
  refine t_iald hx hb hw k_v7 rfl rfl (by omega) (show f0.toInt < 6 by omega) dX8_fetch_14 (fun v14 r_v14 s_v14 q_v14 => ?_)
  have l_v14 := i32_lo v14
  have h_v14 := i32_hi v14
  refine lv_bipush (v := 100) hx hb dX8_fetch_15 (by decide) ?_
  refine t_calli (va_runS (As := [.int v5, .int v14, .int 100]) (rest := []) ⟨hx, hb, hml, hown, hts⟩ (t_X8_partUpwards l dC dI tys κ B ws hw.2.2.2.2 v5 v14 100 (by decide) (by decide) s.heap.size) (va_cwS 3 hts (gUS tw_858 tw_859 tw_8 tw_860) rfl rfl rfl (by decide +kernel) ⟨(Nat.le_of_ble_eq_true rfl), (Nat.le_of_ble_eq_true rfl)⟩) ⟨cPre.blind, cPre.use hw.2.1 hw.1 hw.2.2.1 hE⟩ rfl rfl hl.1 rfl (lv_room (Nat.le_of_ble_eq_true rfl)) dX8_fetch_17 ⟨(Nat.le_of_ble_eq_true rfl), (Nat.le_of_ble_eq_true rfl)⟩) hw hA (fun _ _ h => h.1) (fun v17 w_1 H locs hp hw => ?_)
  obtain ⟨_, hm⟩ := hp
  have l_v17 := i32_lo v17
  have h_v17 := i32_hi v17
  have hM := hM.trans hm (by decide) (by decide)
  have f_a0_X8_1 := hm.1 _ _ _ _ f_a0_X8_1 (by decide)
  have f_a0_X8_12 := hm.1 _ _ _ _ f_a0_X8_12 (by decide)
  have f_a0_X8_8 := hm.1 _ _ _ _ f_a0_X8_8 (by decide)
  refine lv_istore_n (lv' := [(2, .int v17), (0, .ref a0), (1, .int a1)]) hx hb dX8_fetch_20 rfl hl (by decide) rfl (fun ls hl => ?_)
  refine lv_aload_n hx hb dX8_fetch_21 rfl (lv_at hl 1 rfl) ?_
  refine t_getk (ci := 8) (C := RX8) (T := TX8) (N := 13) hx hb hts iX8 hown hw rfl 12 (by decide) (hts _ tw_252) (fun _ h9 => h9) dX8_fetch_22 f_a0_X8_12 ?_
  refine lv_iload_n hx hb dX8_fetch_25 rfl (lv_at hl 2 rfl) ?_
  refine t_iald hx hb hw k_v1 rfl rfl (by omega) (show a1.toInt < 6 by omega) dX8_fetch_26 (fun v26 r_v26 s_v26 q_v26 => ?_)
  have l_v26 := i32_lo v26
  have h_v26 := i32_hi v26
  refine lv_iload_n hx hb dX8_fetch_27 rfl (lv_at hl 0 rfl) ?_
  refine lv_isub hx hb dX8_fetch_28 ?_
  refine lv_topi (fun v28 e_v28 => ?_)
  have l_v28 := i32_lo v28
  have h_v28 := i32_hi v28
  refine lv_istore_n (lv' := [(3, .int v28), (2, .int v17), (0, .ref a0), (1, .int a1)]) hx hb dX8_fetch_29 rfl hl (by decide) rfl (fun ls hl => ?_)
  refine lv_aload_n hx hb dX8_fetch_30 rfl (lv_at hl 2 rfl) ?_
  refine lv_iconst (v := 1) hx hb dX8_fetch_31 (by decide) ?_
  refine t_put (ci := 8) (C := RX8) (T := TX8) (N := 13) (v := .int 1) hx hb hts iX8 tyX8 tyX8_ok nmX8 hown hw k_a0 rfl rfl rfl 3 (by decide) (hts _ tw_229) (fun _ h9 => h9) rfl (tyX8_ok 3 (by decide)) rfl rfl (okV.int rfl (by decide) (by decide)) dX8_fetch_32 (fun w_2 H locs hw u => ?_)
  have hM := hM.up1 u (by decide)
  have f_a0_X8_1 := u.1 _ _ _ _ f_a0_X8_1 (Or.inr (Or.inr (by decide)))
  have f_a0_X8_12 := u.1 _ _ _ _ f_a0_X8_12 (Or.inr (Or.inr (by decide)))
  have f_a0_X8_8 := u.1 _ _ _ _ f_a0_X8_8 (Or.inr (Or.inr (by decide)))
  have f_a0_X8_3 := u.2.2
  refine lv_aload_n hx hb dX8_fetch_35 rfl (lv_at hl 2 rfl) ?_
  refine t_getk (ci := 8) (C := RX8) (T := TX8) (N := 13) hx hb hts iX8 hown hw rfl 12 (by decide) (hts _ tw_252) (fun _ h9 => h9) dX8_fetch_36 f_a0_X8_12 ?_
  refine lv_iload_n hx hb dX8_fetch_39 rfl (lv_at hl 3 rfl) ?_
  refine lv_iconst (v := 0) hx hb dX8_fetch_40 (by decide) ?_
  refine t_iast hx hb hw k_v1 rfl rfl (by omega) (show a1.toInt < 6 by omega) (i32_lo _) (i32_hi _) dX8_fetch_41 (fun w_3 H locs hw u => ?_)
  have hM := hM.up3 u k_v1 (by decide)
  have f_a0_X8_1 := u.1 _ _ _ _ f_a0_X8_1
  have f_a0_X8_12 := u.1 _ _ _ _ f_a0_X8_12
  have f_a0_X8_8 := u.1 _ _ _ _ f_a0_X8_8
  have f_a0_X8_3 := u.1 _ _ _ _ f_a0_X8_3
  refine lv_aload_n hx hb dX8_fetch_42 rfl (lv_at hl 2 rfl) ?_
  refine lv_ldc (v := 99999) hx hb hown (hts _ tw_861) dX8_fetch_43 ?_
  refine lv_aload_n hx hb dX8_fetch_45 rfl (lv_at hl 2 rfl) ?_
  refine t_geti (ci := 8) (C := RX8) (T := TX8) (N := 13) hx hb hts iX8 hown hw k_a0 rfl rfl rfl 4 (by decide) (hts _ tw_231) (fun _ h9 => h9) dX8_fetch_46 rfl (fun v46 l_v46 h_v46 f_a0_X8_4 => ?_)
  have l_v46 : (-2147483648) ≤ v46.toInt := l_v46
  have h_v46 : v46.toInt ≤ 2147483647 := h_v46
  refine lv_iload_n hx hb dX8_fetch_49 rfl (lv_at hl 0 rfl) ?_
  refine lv_iadd hx hb dX8_fetch_50 ?_
  refine lv_topi (fun v50 e_v50 => ?_)
  have l_v50 := i32_lo v50
  have h_v50 := i32_hi v50
  refine va_mmin hx hb (hml.trans hl.1.symm) hown (hts _ tw_825) (hts _ tw_615) (hts _ tw_19) (hts _ tw_616) (Nat.le_of_ble_eq_true rfl) (Nat.le_of_ble_eq_true rfl) (Nat.le_of_ble_eq_true rfl) (Nat.le_of_ble_eq_true rfl) dX8_fetch_51 ?_
  refine lv_topi (fun v51 e_v51 => ?_)
  have g_v51 := mn_i e_v51 li_99999 rfl
  refine t_put (ci := 8) (C := RX8) (T := TX8) (N := 13) (v := .int v51) hx hb hts iX8 tyX8 tyX8_ok nmX8 hown hw k_a0 rfl rfl rfl 4 (by decide) (hts _ tw_231) (fun _ h9 => h9) rfl (tyX8_ok 4 (by decide)) rfl rfl (okV.int rfl (by omega) (by omega)) dX8_fetch_54 (fun w_4 H locs hw u => ?_)
  have hM := hM.up1 u (by decide)
  have f_a0_X8_1 := u.1 _ _ _ _ f_a0_X8_1 (Or.inr (Or.inr (by decide)))
  have f_a0_X8_12 := u.1 _ _ _ _ f_a0_X8_12 (Or.inr (Or.inr (by decide)))
  have f_a0_X8_8 := u.1 _ _ _ _ f_a0_X8_8 (Or.inr (Or.inr (by decide)))
  have f_a0_X8_3 := u.1 _ _ _ _ f_a0_X8_3 (Or.inr (Or.inr (by decide)))
  have f_a0_X8_4 := u.2.2
  refine lv_aload_n hx hb dX8_fetch_57 rfl (lv_at hl 2 rfl) ?_
  refine lv_ldc (v := 99999) hx hb hown (hts _ tw_861) dX8_fetch_58 ?_
  refine lv_aload_n hx hb dX8_fetch_60 rfl (lv_at hl 2 rfl) ?_
  refine t_geti (ci := 8) (C := RX8) (T := TX8) (N := 13) hx hb hts iX8 hown hw k_a0 rfl rfl rfl 5 (by decide) (hts _ tw_234) (fun _ h9 => h9) dX8_fetch_61 rfl (fun v61 l_v61 h_v61 f_a0_X8_5 => ?_)
  have l_v61 : (-2147483648) ≤ v61.toInt := l_v61
  have h_v61 : v61.toInt ≤ 2147483647 := h_v61
  refine lv_iload_n hx hb dX8_fetch_64 rfl (lv_at hl 1 rfl) ?_
  refine lv_iadd hx hb dX8_fetch_65 ?_
  refine lv_topi (fun v65 e_v65 => ?_)
  have l_v65 := i32_lo v65
  have h_v65 := i32_hi v65
  refine va_mmin hx hb (hml.trans hl.1.symm) hown (hts _ tw_825) (hts _ tw_615) (hts _ tw_19) (hts _ tw_616) (Nat.le_of_ble_eq_true rfl) (Nat.le_of_ble_eq_true rfl) (Nat.le_of_ble_eq_true rfl) (Nat.le_of_ble_eq_true rfl) dX8_fetch_66 ?_
  refine lv_topi (fun v66 e_v66 => ?_)
  have g_v66 := mn_i e_v66 li_99999 rfl
  refine t_put (ci := 8) (C := RX8) (T := TX8) (N := 13) (v := .int v66) hx hb hts iX8 tyX8 tyX8_ok nmX8 hown hw k_a0 rfl rfl rfl 5 (by decide) (hts _ tw_234) (fun _ h9 => h9) rfl (tyX8_ok 5 (by decide)) rfl rfl (okV.int rfl (by omega) (by omega)) dX8_fetch_69 (fun w_5 H locs hw u => ?_)
  have hM := hM.up1 u (by decide)
  have f_a0_X8_1 := u.1 _ _ _ _ f_a0_X8_1 (Or.inr (Or.inr (by decide)))
  have f_a0_X8_12 := u.1 _ _ _ _ f_a0_X8_12 (Or.inr (Or.inr (by decide)))
  have f_a0_X8_8 := u.1 _ _ _ _ f_a0_X8_8 (Or.inr (Or.inr (by decide)))
  have f_a0_X8_3 := u.1 _ _ _ _ f_a0_X8_3 (Or.inr (Or.inr (by decide)))
  have f_a0_X8_4 := u.1 _ _ _ _ f_a0_X8_4 (Or.inr (Or.inr (by decide)))
  have f_a0_X8_5 := u.2.2
  refine lv_iload_n hx hb dX8_fetch_72 rfl (lv_at hl 0 rfl) ?_
  rw [hQ]
  refine W.widen (k := 0) (n := 0) (Nat.le_refl _) (Nat.le_refl _) ?_
  exact W.iret (v := v28) hx hb hr (fun t ht hW => ⟨⟨v28, w_5, rfl, ⟨hw.2.2.2.2, hM⟩, by rw [ht]; exact hw.2.1, va_K.moved hW.alike hw.1, hw.2.2.1⟩, hw.2.2.2.1.F ht⟩) hw.2.2.2.1.2.2 dX8_fetch_73
