theorem ts_0_10 : Cond.selects "BoyBishop$RuleReader" ⟨"BoyBishop$RuleReader", "countPart", "(I)V"⟩ ⟨"BoyBishop$RuleReader", "countPart", "(I)V"⟩ ∈ gT := gT_in (List.mem_append_left _ (List.mem_map.mpr ⟨(⟨"BoyBishop$RuleReader", "countPart", "(I)V"⟩, 3), (List.mem_append_left _ (List.mem_of_getElem? (i := 10) rfl)), rfl⟩)) rfl
theorem ts_0_11 : Cond.selects "BoyBishop$RuleReader" ⟨"BoyBishop$RuleReader", "takeStep", "()I"⟩ ⟨"BoyBishop$RuleReader", "takeStep", "()I"⟩ ∈ gT := gT_in (List.mem_append_left _ (List.mem_map.mpr ⟨(⟨"BoyBishop$RuleReader", "takeStep", "()I"⟩, 3), (List.mem_append_left _ (List.mem_of_getElem? (i := 11) rfl)), rfl⟩)) rfl
theorem ts_0_7 : Cond.selects "BoyBishop$Tape" ⟨"BoyBishop$Tape", "stands", "(IC)Z"⟩ ⟨"BoyBishop$Tape", "stands", "(IC)Z"⟩ ∈ gT := gT_in (List.mem_append_left _ (List.mem_map.mpr ⟨(⟨"BoyBishop$Tape", "stands", "(IC)Z"⟩, 4), (List.mem_append_left _ (List.mem_of_getElem? (i := 7) rfl)), rfl⟩)) rfl
theorem ts_0_8 : Cond.selects "BoyBishop$RuleReader" ⟨"BoyBishop$RuleReader", "readSum", "()V"⟩ ⟨"BoyBishop$RuleReader", "readSum", "()V"⟩ ∈ gT := gT_in (List.mem_append_left _ (List.mem_map.mpr ⟨(⟨"BoyBishop$RuleReader", "readSum", "()V"⟩, 3), (List.mem_append_left _ (List.mem_of_getElem? (i := 8) rfl)), rfl⟩)) rfl
theorem ts_0_9 : Cond.selects "BoyBishop$RuleReader" ⟨"BoyBishop$RuleReader", "readValue", "()V"⟩ ⟨"BoyBishop$RuleReader", "readValue", "()V"⟩ ∈ gT := gT_in (List.mem_append_left _ (List.mem_map.mpr ⟨(⟨"BoyBishop$RuleReader", "readValue", "()V"⟩, 3), (List.mem_append_left _ (List.mem_of_getElem? (i := 9) rfl)), rfl⟩)) rfl
theorem tw_166 : (Jvm.Cond.fieldLink "BoyBishop$RuleReader" (9 : Nat) "BoyBishop$RuleReader" "tape" "LBoyBishop$Tape;") ∈ gT := gT_in (List.mem_append_right _ (List.mem_append_left _ (List.mem_of_getElem? (i := 166) rfl))) rfl
theorem tw_167 : (Jvm.Cond.fieldLink "BoyBishop$RuleReader" (15 : Nat) "BoyBishop$RuleReader" "rule" "LBoyBishop$Rule;") ∈ gT := gT_in (List.mem_append_right _ (List.mem_append_left _ (List.mem_of_getElem? (i := 167) rfl))) rfl
theorem tw_168 : (Jvm.Cond.fieldLink "BoyBishop$RuleReader" (19 : Nat) "BoyBishop$RuleReader" "parts" "I") ∈ gT := gT_in (List.mem_append_right _ (List.mem_append_left _ (List.mem_of_getElem? (i := 168) rfl))) rfl
theorem tw_184 : (Jvm.Cond.fieldLink "BoyBishop$Rule" (28 : Nat) "BoyBishop$Rule" "stepCount" "I") ∈ gT := gT_in (List.mem_append_right _ (List.mem_append_left _ (List.mem_of_getElem? (i := 184) rfl))) rfl
theorem tw_188 : (Jvm.Cond.fieldLink "BoyBishop$Rule" (32 : Nat) "BoyBishop$Rule" "clauses" "I") ∈ gT := gT_in (List.mem_append_right _ (List.mem_append_left _ (List.mem_of_getElem? (i := 188) rfl))) rfl
theorem tw_39 : (Jvm.Cond.fieldLink "BoyBishop$RuleReader" (33 : Nat) "BoyBishop$Tape" "place" "I") ∈ gT := gT_in (List.mem_append_right _ (List.mem_append_left _ (List.mem_of_getElem? (i := 39) rfl))) rfl
theorem tw_43 : (Jvm.Cond.fieldLink "BoyBishop$RuleReader" (64 : Nat) "BoyBishop$Tape" "fault" "I") ∈ gT := gT_in (List.mem_append_right _ (List.mem_append_left _ (List.mem_of_getElem? (i := 43) rfl))) rfl
theorem tw_578 : (Jvm.Cond.instanceMethod ({ cls := "BoyBishop$Tape", name := "isDigitAt", desc := "(I)Z" } : Jvm.MethodName)) ∈ gT := gT_in (List.mem_append_right _ (List.mem_append_right _ (List.mem_append_right _ (List.mem_append_left _ (List.mem_of_getElem? (i := 98) rfl))))) rfl
theorem tw_579 : (Jvm.Cond.selects "BoyBishop$Tape" ({ cls := "BoyBishop$Tape", name := "isDigitAt", desc := "(I)Z" } : Jvm.MethodName) ({ cls := "BoyBishop$Tape", name := "isDigitAt", desc := "(I)Z" } : Jvm.MethodName)) ∈ gT := gT_in (List.mem_append_right _ (List.mem_append_right _ (List.mem_append_right _ (List.mem_append_left _ (List.mem_of_getElem? (i := 99) rfl))))) rfl
theorem tw_580 : (Jvm.Cond.code ({ cls := "BoyBishop$Tape", name := "isDigitAt", desc := "(I)Z" } : Jvm.MethodName) prog_11_method_11_code (2 : Nat) (Option.some Jvm.ClassFile.FieldType.boolean)) ∈ gT := gT_in (List.mem_append_right _ (List.mem_append_right _ (List.mem_append_right _ (List.mem_append_left _ (List.mem_of_getElem? (i := 100) rfl))))) rfl
theorem tw_603 : (Jvm.Cond.instanceMethod ({ cls := "BoyBishop$Tape", name := "takeSign", desc := "(C)Z" } : Jvm.MethodName)) ∈ gT := gT_in (List.mem_append_right _ (List.mem_append_right _ (List.mem_append_right _ (List.mem_append_left _ (List.mem_of_getElem? (i := 123) rfl))))) rfl
theorem tw_604 : (Jvm.Cond.selects "BoyBishop$Tape" ({ cls := "BoyBishop$Tape", name := "takeSign", desc := "(C)Z" } : Jvm.MethodName) ({ cls := "BoyBishop$Tape", name := "takeSign", desc := "(C)Z" } : Jvm.MethodName)) ∈ gT := gT_in (List.mem_append_right _ (List.mem_append_right _ (List.mem_append_right _ (List.mem_append_left _ (List.mem_of_getElem? (i := 124) rfl))))) rfl
theorem tw_605 : (Jvm.Cond.code ({ cls := "BoyBishop$Tape", name := "takeSign", desc := "(C)Z" } : Jvm.MethodName) prog_11_method_9_code (3 : Nat) (Option.some Jvm.ClassFile.FieldType.boolean)) ∈ gT := gT_in (List.mem_append_right _ (List.mem_append_right _ (List.mem_append_right _ (List.mem_append_left _ (List.mem_of_getElem? (i := 125) rfl))))) rfl
theorem tw_606 : (Jvm.Cond.methodLink "BoyBishop$Tape" (29 : Nat) ({ cls := "BoyBishop$Tape", name := "stands", desc := "(IC)Z" } : Jvm.MethodName)) ∈ gT := gT_in (List.mem_append_right _ (List.mem_append_right _ (List.mem_append_right _ (List.mem_append_left _ (List.mem_of_getElem? (i := 126) rfl))))) rfl
theorem tw_608 : (Jvm.Cond.instanceMethod ({ cls := "BoyBishop$Tape", name := "stands", desc := "(IC)Z" } : Jvm.MethodName)) ∈ gT := gT_in (List.mem_append_right _ (List.mem_append_right _ (List.mem_append_right _ (List.mem_append_left _ (List.mem_of_getElem? (i := 128) rfl))))) rfl
theorem tw_609 : (Jvm.Cond.code ({ cls := "BoyBishop$Tape", name := "stands", desc := "(IC)Z" } : Jvm.MethodName) prog_11_method_8_code (3 : Nat) (Option.some Jvm.ClassFile.FieldType.boolean)) ∈ gT := gT_in (List.mem_append_right _ (List.mem_append_right _ (List.mem_append_right _ (List.mem_append_left _ (List.mem_of_getElem? (i := 129) rfl))))) rfl
theorem tw_633 : (Jvm.Cond.methodLink "BoyBishop" (133 : Nat) ({ cls := "BoyBishop$RuleReader", name := "read", desc := "(LBoyBishop$Tape;LBoyBishop$Rule;)Z" } : Jvm.MethodName)) ∈ gT := gT_in (List.mem_append_right _ (List.mem_append_right _ (List.mem_append_right _ (List.mem_append_left _ (List.mem_of_getElem? (i := 153) rfl))))) rfl
theorem tw_634 : (Jvm.Cond.instanceMethod ({ cls := "BoyBishop$RuleReader", name := "read", desc := "(LBoyBishop$Tape;LBoyBishop$Rule;)Z" } : Jvm.MethodName)) ∈ gT := gT_in (List.mem_append_right _ (List.mem_append_right _ (List.mem_append_right _ (List.mem_append_left _ (List.mem_of_getElem? (i := 154) rfl))))) rfl
theorem tw_635 : (Jvm.Cond.selects "BoyBishop$RuleReader" ({ cls := "BoyBishop$RuleReader", name := "read", desc := "(LBoyBishop$Tape;LBoyBishop$Rule;)Z" } : Jvm.MethodName) ({ cls := "BoyBishop$RuleReader", name := "read", desc := "(LBoyBishop$Tape;LBoyBishop$Rule;)Z" } : Jvm.MethodName)) ∈ gT := gT_in (List.mem_append_right _ (List.mem_append_right _ (List.mem_append_right _ (List.mem_append_left _ (List.mem_of_getElem? (i := 155) rfl))))) rfl
theorem tw_636 : (Jvm.Cond.code ({ cls := "BoyBishop$RuleReader", name := "read", desc := "(LBoyBishop$Tape;LBoyBishop$Rule;)Z" } : Jvm.MethodName) prog_9_method_2_code (5 : Nat) (Option.some Jvm.ClassFile.FieldType.boolean)) ∈ gT := gT_in (List.mem_append_right _ (List.mem_append_right _ (List.mem_append_right _ (List.mem_append_left _ (List.mem_of_getElem? (i := 156) rfl))))) rfl
theorem tw_637 : (Jvm.Cond.methodLink "BoyBishop$RuleReader" (23 : Nat) ({ cls := "BoyBishop$Rule", name := "clear", desc := "()V" } : Jvm.MethodName)) ∈ gT := gT_in (List.mem_append_right _ (List.mem_append_right _ (List.mem_append_right _ (List.mem_append_left _ (List.mem_of_getElem? (i := 157) rfl))))) rfl
theorem tw_638 : (Jvm.Cond.instanceMethod ({ cls := "BoyBishop$Rule", name := "clear", desc := "()V" } : Jvm.MethodName)) ∈ gT := gT_in (List.mem_append_right _ (List.mem_append_right _ (List.mem_append_right _ (List.mem_append_left _ (List.mem_of_getElem? (i := 158) rfl))))) rfl
theorem tw_639 : (Jvm.Cond.selects "BoyBishop$Rule" ({ cls := "BoyBishop$Rule", name := "clear", desc := "()V" } : Jvm.MethodName) ({ cls := "BoyBishop$Rule", name := "clear", desc := "()V" } : Jvm.MethodName)) ∈ gT := gT_in (List.mem_append_right _ (List.mem_append_right _ (List.mem_append_right _ (List.mem_append_left _ (List.mem_of_getElem? (i := 159) rfl))))) rfl
theorem tw_640 : (Jvm.Cond.code ({ cls := "BoyBishop$Rule", name := "clear", desc := "()V" } : Jvm.MethodName) prog_8_method_2_code (1 : Nat) (Option.none : Option Jvm.ClassFile.FieldType)) ∈ gT := gT_in (List.mem_append_right _ (List.mem_append_right _ (List.mem_append_right _ (List.mem_append_left _ (List.mem_of_getElem? (i := 160) rfl))))) rfl
theorem tw_641 : (Jvm.Cond.methodLink "BoyBishop$RuleReader" (28 : Nat) ({ cls := "BoyBishop$Tape", name := "startReading", desc := "()V" } : Jvm.MethodName)) ∈ gT := gT_in (List.mem_append_right _ (List.mem_append_right _ (List.mem_append_right _ (List.mem_append_left _ (List.mem_of_getElem? (i := 161) rfl))))) rfl
theorem tw_643 : (Jvm.Cond.methodLink "BoyBishop$RuleReader" (38 : Nat) ({ cls := "BoyBishop$Tape", name := "takeWord", desc := "(Ljava/lang/String;)I" } : Jvm.MethodName)) ∈ gT := gT_in (List.mem_append_right _ (List.mem_append_right _ (List.mem_append_right _ (List.mem_append_left _ (List.mem_of_getElem? (i := 163) rfl))))) rfl
theorem tw_644 : (Jvm.Cond.methodLink "BoyBishop$RuleReader" (42 : Nat) ({ cls := "BoyBishop$Tape", name := "fail", desc := "(II)V" } : Jvm.MethodName)) ∈ gT := gT_in (List.mem_append_right _ (List.mem_append_right _ (List.mem_append_right _ (List.mem_append_left _ (List.mem_of_getElem? (i := 164) rfl))))) rfl
theorem tw_645 : (Jvm.Cond.methodLink "BoyBishop$RuleReader" (46 : Nat) ({ cls := "BoyBishop$Rule", name := "beginClause", desc := "()V" } : Jvm.MethodName)) ∈ gT := gT_in (List.mem_append_right _ (List.mem_append_right _ (List.mem_append_right _ (List.mem_append_left _ (List.mem_of_getElem? (i := 165) rfl))))) rfl
theorem tw_646 : (Jvm.Cond.instanceMethod ({ cls := "BoyBishop$Rule", name := "beginClause", desc := "()V" } : Jvm.MethodName)) ∈ gT := gT_in (List.mem_append_right _ (List.mem_append_right _ (List.mem_append_right _ (List.mem_append_left _ (List.mem_of_getElem? (i := 166) rfl))))) rfl
theorem tw_647 : (Jvm.Cond.selects "BoyBishop$Rule" ({ cls := "BoyBishop$Rule", name := "beginClause", desc := "()V" } : Jvm.MethodName) ({ cls := "BoyBishop$Rule", name := "beginClause", desc := "()V" } : Jvm.MethodName)) ∈ gT := gT_in (List.mem_append_right _ (List.mem_append_right _ (List.mem_append_right _ (List.mem_append_left _ (List.mem_of_getElem? (i := 167) rfl))))) rfl
theorem tw_648 : (Jvm.Cond.code ({ cls := "BoyBishop$Rule", name := "beginClause", desc := "()V" } : Jvm.MethodName) prog_8_method_4_code (1 : Nat) (Option.none : Option Jvm.ClassFile.FieldType)) ∈ gT := gT_in (List.mem_append_right _ (List.mem_append_right _ (List.mem_append_right _ (List.mem_append_left _ (List.mem_of_getElem? (i := 168) rfl))))) rfl
theorem tw_649 : (Jvm.Cond.methodLink "BoyBishop$RuleReader" (49 : Nat) ({ cls := "BoyBishop$RuleReader", name := "readSum", desc := "()V" } : Jvm.MethodName)) ∈ gT := gT_in (List.mem_append_right _ (List.mem_append_right _ (List.mem_append_right _ (List.mem_append_left _ (List.mem_of_getElem? (i := 169) rfl))))) rfl
theorem tw_651 : (Jvm.Cond.instanceMethod ({ cls := "BoyBishop$RuleReader", name := "readSum", desc := "()V" } : Jvm.MethodName)) ∈ gT := gT_in (List.mem_append_right _ (List.mem_append_right _ (List.mem_append_right _ (List.mem_append_left _ (List.mem_of_getElem? (i := 171) rfl))))) rfl
theorem tw_652 : (Jvm.Cond.code ({ cls := "BoyBishop$RuleReader", name := "readSum", desc := "()V" } : Jvm.MethodName) prog_9_method_6_code (5 : Nat) (Option.none : Option Jvm.ClassFile.FieldType)) ∈ gT := gT_in (List.mem_append_right _ (List.mem_append_right _ (List.mem_append_right _ (List.mem_append_left _ (List.mem_of_getElem? (i := 172) rfl))))) rfl
theorem tw_653 : (Jvm.Cond.methodLink "BoyBishop$RuleReader" (96 : Nat) ({ cls := "BoyBishop$RuleReader", name := "readValue", desc := "()V" } : Jvm.MethodName)) ∈ gT := gT_in (List.mem_append_right _ (List.mem_append_right _ (List.mem_append_right _ (List.mem_append_left _ (List.mem_of_getElem? (i := 173) rfl))))) rfl
theorem tw_655 : (Jvm.Cond.instanceMethod ({ cls := "BoyBishop$RuleReader", name := "readValue", desc := "()V" } : Jvm.MethodName)) ∈ gT := gT_in (List.mem_append_right _ (List.mem_append_right _ (List.mem_append_right _ (List.mem_append_left _ (List.mem_of_getElem? (i := 175) rfl))))) rfl
theorem tw_656 : (Jvm.Cond.code ({ cls := "BoyBishop$RuleReader", name := "readValue", desc := "()V" } : Jvm.MethodName) prog_9_method_8_code (3 : Nat) (Option.none : Option Jvm.ClassFile.FieldType)) ∈ gT := gT_in (List.mem_append_right _ (List.mem_append_right _ (List.mem_append_right _ (List.mem_append_left _ (List.mem_of_getElem? (i := 176) rfl))))) rfl
theorem tw_657 : (Jvm.Cond.methodLink "BoyBishop$RuleReader" (102 : Nat) ({ cls := "BoyBishop$Tape", name := "isDigitAt", desc := "(I)Z" } : Jvm.MethodName)) ∈ gT := gT_in (List.mem_append_right _ (List.mem_append_right _ (List.mem_append_right _ (List.mem_append_left _ (List.mem_of_getElem? (i := 177) rfl))))) rfl
theorem tw_660 : (Jvm.Cond.methodLink "BoyBishop$RuleReader" (80 : Nat) ({ cls := "BoyBishop$Rule", name := "add", desc := "(I)V" } : Jvm.MethodName)) ∈ gT := gT_in (List.mem_append_right _ (List.mem_append_right _ (List.mem_append_right _ (List.mem_append_left _ (List.mem_of_getElem? (i := 180) rfl))))) rfl
theorem tw_661 : (Jvm.Cond.instanceMethod ({ cls := "BoyBishop$Rule", name := "add", desc := "(I)V" } : Jvm.MethodName)) ∈ gT := gT_in (List.mem_append_right _ (List.mem_append_right _ (List.mem_append_right _ (List.mem_append_left _ (List.mem_of_getElem? (i := 181) rfl))))) rfl
theorem tw_662 : (Jvm.Cond.selects "BoyBishop$Rule" ({ cls := "BoyBishop$Rule", name := "add", desc := "(I)V" } : Jvm.MethodName) ({ cls := "BoyBishop$Rule", name := "add", desc := "(I)V" } : Jvm.MethodName)) ∈ gT := gT_in (List.mem_append_right _ (List.mem_append_right _ (List.mem_append_right _ (List.mem_append_left _ (List.mem_of_getElem? (i := 182) rfl))))) rfl
theorem tw_663 : (Jvm.Cond.code ({ cls := "BoyBishop$Rule", name := "add", desc := "(I)V" } : Jvm.MethodName) prog_8_method_3_code (2 : Nat) (Option.none : Option Jvm.ClassFile.FieldType)) ∈ gT := gT_in (List.mem_append_right _ (List.mem_append_right _ (List.mem_append_right _ (List.mem_append_left _ (List.mem_of_getElem? (i := 183) rfl))))) rfl
theorem tw_665 : (Jvm.Cond.methodLink "BoyBishop$RuleReader" (93 : Nat) ({ cls := "BoyBishop$RuleReader", name := "countPart", desc := "(I)V" } : Jvm.MethodName)) ∈ gT := gT_in (List.mem_append_right _ (List.mem_append_right _ (List.mem_append_right _ (List.mem_append_left _ (List.mem_of_getElem? (i := 185) rfl))))) rfl
theorem tw_667 : (Jvm.Cond.instanceMethod ({ cls := "BoyBishop$RuleReader", name := "countPart", desc := "(I)V" } : Jvm.MethodName)) ∈ gT := gT_in (List.mem_append_right _ (List.mem_append_right _ (List.mem_append_right _ (List.mem_append_left _ (List.mem_of_getElem? (i := 187) rfl))))) rfl
theorem tw_668 : (Jvm.Cond.code ({ cls := "BoyBishop$RuleReader", name := "countPart", desc := "(I)V" } : Jvm.MethodName) prog_9_method_9_code (2 : Nat) (Option.none : Option Jvm.ClassFile.FieldType)) ∈ gT := gT_in (List.mem_append_right _ (List.mem_append_right _ (List.mem_append_right _ (List.mem_append_left _ (List.mem_of_getElem? (i := 188) rfl))))) rfl
theorem tw_669 : (Jvm.Cond.methodLink "BoyBishop$RuleReader" (99 : Nat) ({ cls := "BoyBishop$RuleReader", name := "takeStep", desc := "()I" } : Jvm.MethodName)) ∈ gT := gT_in (List.mem_append_right _ (List.mem_append_right _ (List.mem_append_right _ (List.mem_append_left _ (List.mem_of_getElem? (i := 189) rfl))))) rfl
theorem tw_671 : (Jvm.Cond.instanceMethod ({ cls := "BoyBishop$RuleReader", name := "takeStep", desc := "()I" } : Jvm.MethodName)) ∈ gT := gT_in (List.mem_append_right _ (List.mem_append_right _ (List.mem_append_right _ (List.mem_append_left _ (List.mem_of_getElem? (i := 191) rfl))))) rfl
theorem tw_672 : (Jvm.Cond.code ({ cls := "BoyBishop$RuleReader", name := "takeStep", desc := "()I" } : Jvm.MethodName) prog_9_method_7_code (1 : Nat) (Option.some Jvm.ClassFile.FieldType.int)) ∈ gT := gT_in (List.mem_append_right _ (List.mem_append_right _ (List.mem_append_right _ (List.mem_append_left _ (List.mem_of_getElem? (i := 192) rfl))))) rfl
theorem tw_673 : (Jvm.Cond.methodLink "BoyBishop$RuleReader" (71 : Nat) ({ cls := "BoyBishop$Tape", name := "takeSign", desc := "(C)Z" } : Jvm.MethodName)) ∈ gT := gT_in (List.mem_append_right _ (List.mem_append_right _ (List.mem_append_right _ (List.mem_append_left _ (List.mem_of_getElem? (i := 193) rfl))))) rfl
theorem tw_674 : (Jvm.Cond.methodLink "BoyBishop$RuleReader" (52 : Nat) ({ cls := "BoyBishop$Rule", name := "beginTest", desc := "()V" } : Jvm.MethodName)) ∈ gT := gT_in (List.mem_append_right _ (List.mem_append_right _ (List.mem_append_right _ (List.mem_append_left _ (List.mem_of_getElem? (i := 194) rfl))))) rfl
theorem tw_675 : (Jvm.Cond.instanceMethod ({ cls := "BoyBishop$Rule", name := "beginTest", desc := "()V" } : Jvm.MethodName)) ∈ gT := gT_in (List.mem_append_right _ (List.mem_append_right _ (List.mem_append_right _ (List.mem_append_left _ (List.mem_of_getElem? (i := 195) rfl))))) rfl
theorem tw_676 : (Jvm.Cond.selects "BoyBishop$Rule" ({ cls := "BoyBishop$Rule", name := "beginTest", desc := "()V" } : Jvm.MethodName) ({ cls := "BoyBishop$Rule", name := "beginTest", desc := "()V" } : Jvm.MethodName)) ∈ gT := gT_in (List.mem_append_right _ (List.mem_append_right _ (List.mem_append_right _ (List.mem_append_left _ (List.mem_of_getElem? (i := 196) rfl))))) rfl
theorem tw_677 : (Jvm.Cond.code ({ cls := "BoyBishop$Rule", name := "beginTest", desc := "()V" } : Jvm.MethodName) prog_8_method_5_code (1 : Nat) (Option.none : Option Jvm.ClassFile.FieldType)) ∈ gT := gT_in (List.mem_append_right _ (List.mem_append_right _ (List.mem_append_right _ (List.mem_append_left _ (List.mem_of_getElem? (i := 197) rfl))))) rfl
theorem tw_697 : (Jvm.Cond.methodLink "BoyBishop$RuleReader" (61 : Nat) ({ cls := "BoyBishop$Rule", name := "endClause", desc := "()V" } : Jvm.MethodName)) ∈ gT := gT_in (List.mem_append_right _ (List.mem_append_right _ (List.mem_append_right _ (List.mem_append_left _ (List.mem_of_getElem? (i := 217) rfl))))) rfl
theorem tw_698 : (Jvm.Cond.instanceMethod ({ cls := "BoyBishop$Rule", name := "endClause", desc := "()V" } : Jvm.MethodName)) ∈ gT := gT_in (List.mem_append_right _ (List.mem_append_right _ (List.mem_append_right _ (List.mem_append_left _ (List.mem_of_getElem? (i := 218) rfl))))) rfl
theorem tw_699 : (Jvm.Cond.selects "BoyBishop$Rule" ({ cls := "BoyBishop$Rule", name := "endClause", desc := "()V" } : Jvm.MethodName) ({ cls := "BoyBishop$Rule", name := "endClause", desc := "()V" } : Jvm.MethodName)) ∈ gT := gT_in (List.mem_append_right _ (List.mem_append_right _ (List.mem_append_right _ (List.mem_append_left _ (List.mem_of_getElem? (i := 219) rfl))))) rfl
theorem tw_700 : (Jvm.Cond.code ({ cls := "BoyBishop$Rule", name := "endClause", desc := "()V" } : Jvm.MethodName) prog_8_method_6_code (1 : Nat) (Option.none : Option Jvm.ClassFile.FieldType)) ∈ gT := gT_in (List.mem_append_right _ (List.mem_append_right _ (List.mem_append_right _ (List.mem_append_left _ (List.mem_of_getElem? (i := 220) rfl))))) rfl
theorem dX11_rule_0 : decode cX11_rule 0 = .ok (.aload_n 0, 1) := by decide +kernel
theorem dX11_rule_1 : decode cX11_rule 1 = .ok (.getfield 130, 3) := by decide +kernel
theorem dX11_rule_4 : decode cX11_rule 4 = .ok (.bipush 6, 2) := by decide +kernel
theorem dX11_rule_6 : decode cX11_rule 6 = .ok (.if_icmp .lt 5, 3) := by decide +kernel
theorem dX11_rule_11 : decode cX11_rule 11 = .ok (.aload_n 0, 1) := by decide +kernel
theorem dX11_rule_12 : decode cX11_rule 12 = .ok (.getfield 26, 3) := by decide +kernel
theorem dX11_rule_15 : decode cX11_rule 15 = .ok (.aload_n 0, 1) := by decide +kernel
theorem dX11_rule_16 : decode cX11_rule 16 = .ok (.getfield 10, 3) := by decide +kernel
theorem dX11_rule_19 : decode cX11_rule 19 = .ok (.aload_n 0, 1) := by decide +kernel
theorem dX11_rule_20 : decode cX11_rule 20 = .ok (.getfield 32, 3) := by decide +kernel
theorem dX11_rule_23 : decode cX11_rule 23 = .ok (.aload_n 0, 1) := by decide +kernel
theorem dX11_rule_24 : decode cX11_rule 24 = .ok (.getfield 130, 3) := by decide +kernel
theorem dX11_rule_27 : decode cX11_rule 27 = .ok (.aaload, 1) := by decide +kernel
theorem dX11_rule_28 : decode cX11_rule 28 = .ok (.invokevirtual 133, 3) := by decide +kernel
theorem dX11_rule_31 : decode cX11_rule 31 = .ok (.ifCond .ne 14, 3) := by decide +kernel
theorem dX11_rule_34 : decode cX11_rule 34 = .ok (.bipush (-2), 2) := by decide +kernel
theorem dX11_rule_36 : decode cX11_rule 36 = .ok (.aload_n 0, 1) := by decide +kernel
theorem dX11_rule_37 : decode cX11_rule 37 = .ok (.getfield 10, 3) := by decide +kernel
theorem dX11_rule_40 : decode cX11_rule 40 = .ok (.getfield 112, 3) := by decide +kernel
theorem dX11_rule_43 : decode cX11_rule 43 = .ok (.isub, 1) := by decide +kernel
theorem dX11_rule_44 : decode cX11_rule 44 = .ok (.ireturn, 1) := by decide +kernel
theorem dX6_add_0 : decode cX6_add 0 = .ok (.aload_n 0, 1) := by decide +kernel
theorem dX6_add_1 : decode cX6_add 1 = .ok (.getfield 28, 3) := by decide +kernel
theorem dX6_add_4 : decode cX6_add 4 = .ok (.aload_n 0, 1) := by decide +kernel
theorem dX6_add_5 : decode cX6_add 5 = .ok (.getfield 9, 3) := by decide +kernel
theorem dX6_add_8 : decode cX6_add 8 = .ok (.arraylength, 1) := by decide +kernel
theorem dX6_add_9 : decode cX6_add 9 = .ok (.if_icmp .ge 23, 3) := by decide +kernel
theorem dX6_add_12 : decode cX6_add 12 = .ok (.aload_n 0, 1) := by decide +kernel
theorem dX6_add_13 : decode cX6_add 13 = .ok (.getfield 9, 3) := by decide +kernel
theorem dX6_add_16 : decode cX6_add 16 = .ok (.aload_n 0, 1) := by decide +kernel
theorem dX6_add_17 : decode cX6_add 17 = .ok (.getfield 28, 3) := by decide +kernel
theorem dX6_add_20 : decode cX6_add 20 = .ok (.iload_n 1, 1) := by decide +kernel
theorem dX6_add_21 : decode cX6_add 21 = .ok (.iastore, 1) := by decide +kernel
theorem dX6_add_22 : decode cX6_add 22 = .ok (.aload_n 0, 1) := by decide +kernel
theorem dX6_add_23 : decode cX6_add 23 = .ok (.dup, 1) := by decide +kernel
theorem dX6_add_24 : decode cX6_add 24 = .ok (.getfield 28, 3) := by decide +kernel
theorem dX6_add_27 : decode cX6_add 27 = .ok (.iconst 1, 1) := by decide +kernel
theorem dX6_add_28 : decode cX6_add 28 = .ok (.iadd, 1) := by decide +kernel
theorem dX6_add_29 : decode cX6_add 29 = .ok (.putfield 28, 3) := by decide +kernel
theorem dX6_add_32 : decode cX6_add 32 = .ok (.return_, 1) := by decide +kernel
theorem dX6_beginClause_0 : decode cX6_beginClause 0 = .ok (.aload_n 0, 1) := by decide +kernel
theorem dX6_beginClause_1 : decode cX6_beginClause 1 = .ok (.getfield 32, 3) := by decide +kernel
theorem dX6_beginClause_4 : decode cX6_beginClause 4 = .ok (.bipush 12, 2) := by decide +kernel
theorem dX6_beginClause_6 : decode cX6_beginClause 6 = .ok (.if_icmp .ge 16, 3) := by decide +kernel
theorem dX6_beginClause_9 : decode cX6_beginClause 9 = .ok (.aload_n 0, 1) := by decide +kernel
theorem dX6_beginClause_10 : decode cX6_beginClause 10 = .ok (.getfield 15, 3) := by decide +kernel
theorem dX6_beginClause_13 : decode cX6_beginClause 13 = .ok (.aload_n 0, 1) := by decide +kernel
theorem dX6_beginClause_14 : decode cX6_beginClause 14 = .ok (.getfield 32, 3) := by decide +kernel
theorem dX6_beginClause_17 : decode cX6_beginClause 17 = .ok (.aload_n 0, 1) := by decide +kernel
theorem dX6_beginClause_18 : decode cX6_beginClause 18 = .ok (.getfield 28, 3) := by decide +kernel
theorem dX6_beginClause_21 : decode cX6_beginClause 21 = .ok (.iastore, 1) := by decide +kernel
theorem dX6_beginClause_22 : decode cX6_beginClause 22 = .ok (.return_, 1) := by decide +kernel
theorem dX6_beginTest_0 : decode cX6_beginTest 0 = .ok (.aload_n 0, 1) := by decide +kernel
theorem dX6_beginTest_1 : decode cX6_beginTest 1 = .ok (.getfield 32, 3) := by decide +kernel
theorem dX6_beginTest_4 : decode cX6_beginTest 4 = .ok (.bipush 12, 2) := by decide +kernel
theorem dX6_beginTest_6 : decode cX6_beginTest 6 = .ok (.if_icmp .ge 16, 3) := by decide +kernel
theorem dX6_beginTest_9 : decode cX6_beginTest 9 = .ok (.aload_n 0, 1) := by decide +kernel
theorem dX6_beginTest_10 : decode cX6_beginTest 10 = .ok (.getfield 18, 3) := by decide +kernel
theorem dX6_beginTest_13 : decode cX6_beginTest 13 = .ok (.aload_n 0, 1) := by decide +kernel
theorem dX6_beginTest_14 : decode cX6_beginTest 14 = .ok (.getfield 32, 3) := by decide +kernel
theorem dX6_beginTest_17 : decode cX6_beginTest 17 = .ok (.aload_n 0, 1) := by decide +kernel
theorem dX6_beginTest_18 : decode cX6_beginTest 18 = .ok (.getfield 28, 3) := by decide +kernel
theorem dX6_beginTest_21 : decode cX6_beginTest 21 = .ok (.iastore, 1) := by decide +kernel
theorem dX6_beginTest_22 : decode cX6_beginTest 22 = .ok (.return_, 1) := by decide +kernel
theorem dX6_clear_0 : decode cX6_clear 0 = .ok (.aload_n 0, 1) := by decide +kernel
theorem dX6_clear_1 : decode cX6_clear 1 = .ok (.iconst 0, 1) := by decide +kernel
theorem dX6_clear_2 : decode cX6_clear 2 = .ok (.putfield 28, 3) := by decide +kernel
theorem dX6_clear_5 : decode cX6_clear 5 = .ok (.aload_n 0, 1) := by decide +kernel
theorem dX6_clear_6 : decode cX6_clear 6 = .ok (.iconst 0, 1) := by decide +kernel
theorem dX6_clear_7 : decode cX6_clear 7 = .ok (.putfield 32, 3) := by decide +kernel
theorem dX6_clear_10 : decode cX6_clear 10 = .ok (.return_, 1) := by decide +kernel
theorem dX6_endClause_0 : decode cX6_endClause 0 = .ok (.aload_n 0, 1) := by decide +kernel
theorem dX6_endClause_1 : decode cX6_endClause 1 = .ok (.getfield 32, 3) := by decide +kernel
theorem dX6_endClause_4 : decode cX6_endClause 4 = .ok (.bipush 12, 2) := by decide +kernel
theorem dX6_endClause_6 : decode cX6_endClause 6 = .ok (.if_icmp .ge 26, 3) := by decide +kernel
theorem dX6_endClause_9 : decode cX6_endClause 9 = .ok (.aload_n 0, 1) := by decide +kernel
theorem dX6_endClause_10 : decode cX6_endClause 10 = .ok (.getfield 21, 3) := by decide +kernel
theorem dX6_endClause_13 : decode cX6_endClause 13 = .ok (.aload_n 0, 1) := by decide +kernel
theorem dX6_endClause_14 : decode cX6_endClause 14 = .ok (.getfield 32, 3) := by decide +kernel
theorem dX6_endClause_17 : decode cX6_endClause 17 = .ok (.aload_n 0, 1) := by decide +kernel
theorem dX6_endClause_18 : decode cX6_endClause 18 = .ok (.getfield 28, 3) := by decide +kernel
theorem dX6_endClause_21 : decode cX6_endClause 21 = .ok (.iastore, 1) := by decide +kernel
theorem dX6_endClause_22 : decode cX6_endClause 22 = .ok (.aload_n 0, 1) := by decide +kernel
theorem dX6_endClause_23 : decode cX6_endClause 23 = .ok (.dup, 1) := by decide +kernel
theorem dX6_endClause_24 : decode cX6_endClause 24 = .ok (.getfield 32, 3) := by decide +kernel
theorem dX6_endClause_27 : decode cX6_endClause 27 = .ok (.iconst 1, 1) := by decide +kernel
theorem dX6_endClause_28 : decode cX6_endClause 28 = .ok (.iadd, 1) := by decide +kernel
theorem dX6_endClause_29 : decode cX6_endClause 29 = .ok (.putfield 32, 3) := by decide +kernel
theorem dX6_endClause_32 : decode cX6_endClause 32 = .ok (.return_, 1) := by decide +kernel
theorem dX7_countPart_0 : decode cX7_countPart 0 = .ok (.aload_n 0, 1) := by decide +kernel
theorem dX7_countPart_1 : decode cX7_countPart 1 = .ok (.dup, 1) := by decide +kernel
theorem dX7_countPart_2 : decode cX7_countPart 2 = .ok (.getfield 19, 3) := by decide +kernel
theorem dX7_countPart_5 : decode cX7_countPart 5 = .ok (.iconst 1, 1) := by decide +kernel
theorem dX7_countPart_6 : decode cX7_countPart 6 = .ok (.iadd, 1) := by decide +kernel
theorem dX7_countPart_7 : decode cX7_countPart 7 = .ok (.putfield 19, 3) := by decide +kernel
theorem dX7_countPart_10 : decode cX7_countPart 10 = .ok (.aload_n 0, 1) := by decide +kernel
theorem dX7_countPart_11 : decode cX7_countPart 11 = .ok (.getfield 19, 3) := by decide +kernel
theorem dX7_countPart_14 : decode cX7_countPart 14 = .ok (.bipush 60, 2) := by decide +kernel
theorem dX7_countPart_16 : decode cX7_countPart 16 = .ok (.if_icmp .le 12, 3) := by decide +kernel
theorem dX7_countPart_28 : decode cX7_countPart 28 = .ok (.return_, 1) := by decide +kernel
theorem dX7_read_0 : decode cX7_read 0 = .ok (.aload_n 0, 1) := by decide +kernel
theorem dX7_read_1 : decode cX7_read 1 = .ok (.aload_n 1, 1) := by decide +kernel
theorem dX7_read_2 : decode cX7_read 2 = .ok (.putfield 9, 3) := by decide +kernel
theorem dX7_read_5 : decode cX7_read 5 = .ok (.aload_n 0, 1) := by decide +kernel
theorem dX7_read_6 : decode cX7_read 6 = .ok (.aload_n 2, 1) := by decide +kernel
theorem dX7_read_7 : decode cX7_read 7 = .ok (.putfield 15, 3) := by decide +kernel
theorem dX7_read_10 : decode cX7_read 10 = .ok (.aload_n 0, 1) := by decide +kernel
theorem dX7_read_11 : decode cX7_read 11 = .ok (.iconst 0, 1) := by decide +kernel
theorem dX7_read_12 : decode cX7_read 12 = .ok (.putfield 19, 3) := by decide +kernel
theorem dX7_read_15 : decode cX7_read 15 = .ok (.aload_n 0, 1) := by decide +kernel
theorem dX7_read_16 : decode cX7_read 16 = .ok (.getfield 15, 3) := by decide +kernel
theorem dX7_read_19 : decode cX7_read 19 = .ok (.invokevirtual 23, 3) := by decide +kernel
theorem dX7_read_22 : decode cX7_read 22 = .ok (.aload_n 0, 1) := by decide +kernel
theorem dX7_read_23 : decode cX7_read 23 = .ok (.getfield 9, 3) := by decide +kernel
theorem dX7_read_26 : decode cX7_read 26 = .ok (.invokevirtual 28, 3) := by decide +kernel
theorem dX7_read_29 : decode cX7_read 29 = .ok (.iconst 0, 1) := by decide +kernel
theorem dX7_read_30 : decode cX7_read 30 = .ok (.istore_n 3, 1) := by decide +kernel
theorem dX7_read_31 : decode cX7_read 31 = .ok (.iload_n 3, 1) := by decide +kernel
theorem dX7_read_32 : decode cX7_read 32 = .ok (.bipush 12, 2) := by decide +kernel
theorem dX7_read_34 : decode cX7_read 34 = .ok (.if_icmp .gt 153, 3) := by decide +kernel
theorem dX7_read_37 : decode cX7_read 37 = .ok (.aload_n 0, 1) := by decide +kernel
theorem dX7_read_38 : decode cX7_read 38 = .ok (.getfield 9, 3) := by decide +kernel
theorem dX7_read_41 : decode cX7_read 41 = .ok (.getfield 33, 3) := by decide +kernel
theorem dX7_read_44 : decode cX7_read 44 = .ok (.istore 4, 2) := by decide +kernel
theorem dX7_read_46 : decode cX7_read 46 = .ok (.aload_n 0, 1) := by decide +kernel
theorem dX7_read_47 : decode cX7_read 47 = .ok (.getfield 9, 3) := by decide +kernel
theorem dX7_read_50 : decode cX7_read 50 = .ok (.ldc 36, 2) := by decide +kernel
theorem dX7_read_52 : decode cX7_read 52 = .ok (.invokevirtual 38, 3) := by decide +kernel
theorem dX7_read_55 : decode cX7_read 55 = .ok (.iconst (-1), 1) := by decide +kernel
theorem dX7_read_56 : decode cX7_read 56 = .ok (.if_icmp .ne 16, 3) := by decide +kernel
theorem dX7_read_59 : decode cX7_read 59 = .ok (.aload_n 0, 1) := by decide +kernel
theorem dX7_read_60 : decode cX7_read 60 = .ok (.getfield 9, 3) := by decide +kernel
theorem dX7_read_63 : decode cX7_read 63 = .ok (.iload 4, 2) := by decide +kernel
theorem dX7_read_65 : decode cX7_read 65 = .ok (.iconst 0, 1) := by decide +kernel
theorem dX7_read_66 : decode cX7_read 66 = .ok (.invokevirtual 42, 3) := by decide +kernel
theorem dX7_read_69 : decode cX7_read 69 = .ok (.goto 19, 3) := by decide +kernel
theorem dX7_read_88 : decode cX7_read 88 = .ok (.aload_n 0, 1) := by decide +kernel
theorem dX7_read_89 : decode cX7_read 89 = .ok (.getfield 15, 3) := by decide +kernel
theorem dX7_read_92 : decode cX7_read 92 = .ok (.invokevirtual 46, 3) := by decide +kernel
theorem dX7_read_95 : decode cX7_read 95 = .ok (.aload_n 0, 1) := by decide +kernel
theorem dX7_read_96 : decode cX7_read 96 = .ok (.invokevirtual 49, 3) := by decide +kernel
theorem dX7_read_99 : decode cX7_read 99 = .ok (.aload_n 0, 1) := by decide +kernel
theorem dX7_read_100 : decode cX7_read 100 = .ok (.getfield 15, 3) := by decide +kernel
theorem dX7_read_103 : decode cX7_read 103 = .ok (.invokevirtual 52, 3) := by decide +kernel
theorem dX7_read_106 : decode cX7_read 106 = .ok (.aload_n 0, 1) := by decide +kernel
theorem dX7_read_107 : decode cX7_read 107 = .ok (.getfield 9, 3) := by decide +kernel
theorem dX7_read_110 : decode cX7_read 110 = .ok (.ldc 55, 2) := by decide +kernel
theorem dX7_read_112 : decode cX7_read 112 = .ok (.invokevirtual 38, 3) := by decide +kernel
theorem dX7_read_115 : decode cX7_read 115 = .ok (.iconst (-1), 1) := by decide +kernel
theorem dX7_read_116 : decode cX7_read 116 = .ok (.if_icmp .eq 8, 3) := by decide +kernel
theorem dX7_read_124 : decode cX7_read 124 = .ok (.aload_n 0, 1) := by decide +kernel
theorem dX7_read_125 : decode cX7_read 125 = .ok (.getfield 15, 3) := by decide +kernel
theorem dX7_read_128 : decode cX7_read 128 = .ok (.invokevirtual 61, 3) := by decide +kernel
theorem dX7_read_131 : decode cX7_read 131 = .ok (.aload_n 0, 1) := by decide +kernel
theorem dX7_read_132 : decode cX7_read 132 = .ok (.getfield 9, 3) := by decide +kernel
theorem dX7_read_135 : decode cX7_read 135 = .ok (.getfield 64, 3) := by decide +kernel
theorem dX7_read_138 : decode cX7_read 138 = .ok (.ifCond .ne 49, 3) := by decide +kernel
theorem dX7_read_187 : decode cX7_read 187 = .ok (.aload_n 0, 1) := by decide +kernel
theorem dX7_read_188 : decode cX7_read 188 = .ok (.getfield 9, 3) := by decide +kernel
theorem dX7_read_191 : decode cX7_read 191 = .ok (.getfield 64, 3) := by decide +kernel
theorem dX7_read_194 : decode cX7_read 194 = .ok (.ifCond .ne 7, 3) := by decide +kernel
theorem dX7_read_201 : decode cX7_read 201 = .ok (.iconst 0, 1) := by decide +kernel
theorem dX7_read_202 : decode cX7_read 202 = .ok (.ireturn, 1) := by decide +kernel
theorem dX7_readSum_0 : decode cX7_readSum 0 = .ok (.iconst 0, 1) := by decide +kernel
theorem dX7_readSum_1 : decode cX7_readSum 1 = .ok (.istore_n 1, 1) := by decide +kernel
theorem dX7_readSum_2 : decode cX7_readSum 2 = .ok (.aload_n 0, 1) := by decide +kernel
theorem dX7_readSum_3 : decode cX7_readSum 3 = .ok (.invokevirtual 96, 3) := by decide +kernel
theorem dX7_readSum_6 : decode cX7_readSum 6 = .ok (.iconst 0, 1) := by decide +kernel
theorem dX7_readSum_7 : decode cX7_readSum 7 = .ok (.istore_n 2, 1) := by decide +kernel
theorem dX7_readSum_8 : decode cX7_readSum 8 = .ok (.iload_n 2, 1) := by decide +kernel
theorem dX7_readSum_9 : decode cX7_readSum 9 = .ok (.sipush 400, 3) := by decide +kernel
theorem dX7_readSum_12 : decode cX7_readSum 12 = .ok (.if_icmp .ge 85, 3) := by decide +kernel
theorem dX7_readSum_15 : decode cX7_readSum 15 = .ok (.aload_n 0, 1) := by decide +kernel
theorem dX7_readSum_16 : decode cX7_readSum 16 = .ok (.invokevirtual 99, 3) := by decide +kernel
theorem dX7_readSum_19 : decode cX7_readSum 19 = .ok (.istore_n 3, 1) := by decide +kernel
theorem dX7_readSum_20 : decode cX7_readSum 20 = .ok (.iload_n 3, 1) := by decide +kernel
theorem dX7_readSum_21 : decode cX7_readSum 21 = .ok (.ifCond .ne 6, 3) := by decide +kernel
theorem dX7_readSum_24 : decode cX7_readSum 24 = .ok (.goto 73, 3) := by decide +kernel
theorem dX7_readSum_97 : decode cX7_readSum 97 = .ok (.iload_n 1, 1) := by decide +kernel
theorem dX7_readSum_98 : decode cX7_readSum 98 = .ok (.ifCond .eq 11, 3) := by decide +kernel
theorem dX7_readSum_109 : decode cX7_readSum 109 = .ok (.return_, 1) := by decide +kernel
theorem dX7_readValue_0 : decode cX7_readValue 0 = .ok (.aload_n 0, 1) := by decide +kernel
theorem dX7_readValue_1 : decode cX7_readValue 1 = .ok (.getfield 9, 3) := by decide +kernel
theorem dX7_readValue_4 : decode cX7_readValue 4 = .ok (.getfield 33, 3) := by decide +kernel
theorem dX7_readValue_7 : decode cX7_readValue 7 = .ok (.istore_n 1, 1) := by decide +kernel
theorem dX7_readValue_8 : decode cX7_readValue 8 = .ok (.aload_n 0, 1) := by decide +kernel
theorem dX7_readValue_9 : decode cX7_readValue 9 = .ok (.getfield 9, 3) := by decide +kernel
theorem dX7_readValue_12 : decode cX7_readValue 12 = .ok (.iload_n 1, 1) := by decide +kernel
theorem dX7_readValue_13 : decode cX7_readValue 13 = .ok (.invokevirtual 102, 3) := by decide +kernel
theorem dX7_readValue_16 : decode cX7_readValue 16 = .ok (.ifCond .eq 23, 3) := by decide +kernel
theorem dX7_readValue_39 : decode cX7_readValue 39 = .ok (.aload_n 0, 1) := by decide +kernel
theorem dX7_readValue_40 : decode cX7_readValue 40 = .ok (.getfield 9, 3) := by decide +kernel
theorem dX7_readValue_43 : decode cX7_readValue 43 = .ok (.ldc 111, 2) := by decide +kernel
theorem dX7_readValue_45 : decode cX7_readValue 45 = .ok (.invokevirtual 38, 3) := by decide +kernel
theorem dX7_readValue_48 : decode cX7_readValue 48 = .ok (.istore_n 2, 1) := by decide +kernel
theorem dX7_readValue_49 : decode cX7_readValue 49 = .ok (.iload_n 2, 1) := by decide +kernel
theorem dX7_readValue_50 : decode cX7_readValue 50 = .ok (.iconst (-1), 1) := by decide +kernel
theorem dX7_readValue_51 : decode cX7_readValue 51 = .ok (.if_icmp .ne 12, 3) := by decide +kernel
theorem dX7_readValue_54 : decode cX7_readValue 54 = .ok (.aload_n 0, 1) := by decide +kernel
theorem dX7_readValue_55 : decode cX7_readValue 55 = .ok (.getfield 9, 3) := by decide +kernel
theorem dX7_readValue_58 : decode cX7_readValue 58 = .ok (.iload_n 1, 1) := by decide +kernel
theorem dX7_readValue_59 : decode cX7_readValue 59 = .ok (.iconst 0, 1) := by decide +kernel
theorem dX7_readValue_60 : decode cX7_readValue 60 = .ok (.invokevirtual 42, 3) := by decide +kernel
theorem dX7_readValue_63 : decode cX7_readValue 63 = .ok (.aload_n 0, 1) := by decide +kernel
theorem dX7_readValue_64 : decode cX7_readValue 64 = .ok (.getfield 15, 3) := by decide +kernel
theorem dX7_readValue_67 : decode cX7_readValue 67 = .ok (.iconst (-1), 1) := by decide +kernel
theorem dX7_readValue_68 : decode cX7_readValue 68 = .ok (.iload_n 2, 1) := by decide +kernel
theorem dX7_readValue_69 : decode cX7_readValue 69 = .ok (.isub, 1) := by decide +kernel
theorem dX7_readValue_70 : decode cX7_readValue 70 = .ok (.invokevirtual 80, 3) := by decide +kernel
theorem dX7_readValue_73 : decode cX7_readValue 73 = .ok (.aload_n 0, 1) := by decide +kernel
theorem dX7_readValue_74 : decode cX7_readValue 74 = .ok (.iload_n 1, 1) := by decide +kernel
theorem dX7_readValue_75 : decode cX7_readValue 75 = .ok (.invokevirtual 93, 3) := by decide +kernel
theorem dX7_readValue_78 : decode cX7_readValue 78 = .ok (.return_, 1) := by decide +kernel
theorem dX7_takeStep_0 : decode cX7_takeStep 0 = .ok (.aload_n 0, 1) := by decide +kernel
theorem dX7_takeStep_1 : decode cX7_takeStep 1 = .ok (.getfield 9, 3) := by decide +kernel
theorem dX7_takeStep_4 : decode cX7_takeStep 4 = .ok (.bipush 43, 2) := by decide +kernel
theorem dX7_takeStep_6 : decode cX7_takeStep 6 = .ok (.invokevirtual 71, 3) := by decide +kernel
theorem dX7_takeStep_9 : decode cX7_takeStep 9 = .ok (.ifCond .eq 6, 3) := by decide +kernel
theorem dX7_takeStep_15 : decode cX7_takeStep 15 = .ok (.aload_n 0, 1) := by decide +kernel
theorem dX7_takeStep_16 : decode cX7_takeStep 16 = .ok (.getfield 9, 3) := by decide +kernel
theorem dX7_takeStep_19 : decode cX7_takeStep 19 = .ok (.bipush 45, 2) := by decide +kernel
theorem dX7_takeStep_21 : decode cX7_takeStep 21 = .ok (.invokevirtual 71, 3) := by decide +kernel
theorem dX7_takeStep_24 : decode cX7_takeStep 24 = .ok (.ifCond .eq 6, 3) := by decide +kernel
theorem dX7_takeStep_30 : decode cX7_takeStep 30 = .ok (.aload_n 0, 1) := by decide +kernel
theorem dX7_takeStep_31 : decode cX7_takeStep 31 = .ok (.getfield 9, 3) := by decide +kernel
theorem dX7_takeStep_34 : decode cX7_takeStep 34 = .ok (.bipush 42, 2) := by decide +kernel
theorem dX7_takeStep_36 : decode cX7_takeStep 36 = .ok (.invokevirtual 71, 3) := by decide +kernel
theorem dX7_takeStep_39 : decode cX7_takeStep 39 = .ok (.ifCond .eq 6, 3) := by decide +kernel
theorem dX7_takeStep_45 : decode cX7_takeStep 45 = .ok (.aload_n 0, 1) := by decide +kernel
theorem dX7_takeStep_46 : decode cX7_takeStep 46 = .ok (.getfield 9, 3) := by decide +kernel
theorem dX7_takeStep_49 : decode cX7_takeStep 49 = .ok (.bipush 47, 2) := by decide +kernel
theorem dX7_takeStep_51 : decode cX7_takeStep 51 = .ok (.invokevirtual 71, 3) := by decide +kernel
theorem dX7_takeStep_54 : decode cX7_takeStep 54 = .ok (.ifCond .eq 6, 3) := by decide +kernel
theorem dX7_takeStep_60 : decode cX7_takeStep 60 = .ok (.aload_n 0, 1) := by decide +kernel
theorem dX7_takeStep_61 : decode cX7_takeStep 61 = .ok (.getfield 9, 3) := by decide +kernel
theorem dX7_takeStep_64 : decode cX7_takeStep 64 = .ok (.bipush 37, 2) := by decide +kernel
theorem dX7_takeStep_66 : decode cX7_takeStep 66 = .ok (.invokevirtual 71, 3) := by decide +kernel
theorem dX7_takeStep_69 : decode cX7_takeStep 69 = .ok (.ifCond .eq 8, 3) := by decide +kernel
theorem dX7_takeStep_77 : decode cX7_takeStep 77 = .ok (.iconst 0, 1) := by decide +kernel
theorem dX7_takeStep_78 : decode cX7_takeStep 78 = .ok (.ireturn, 1) := by decide +kernel
theorem dX9_atEnd_0 : decode cX9_atEnd 0 = .ok (.aload_n 0, 1) := by decide +kernel
theorem dX9_atEnd_1 : decode cX9_atEnd 1 = .ok (.getfield 26, 3) := by decide +kernel
theorem dX9_atEnd_4 : decode cX9_atEnd 4 = .ok (.aload_n 0, 1) := by decide +kernel
theorem dX9_atEnd_5 : decode cX9_atEnd 5 = .ok (.getfield 15, 3) := by decide +kernel
theorem dX9_atEnd_8 : decode cX9_atEnd 8 = .ok (.if_icmp .lt 7, 3) := by decide +kernel
theorem dX9_atEnd_11 : decode cX9_atEnd 11 = .ok (.iconst 1, 1) := by decide +kernel
theorem dX9_atEnd_12 : decode cX9_atEnd 12 = .ok (.goto 4, 3) := by decide +kernel
theorem dX9_atEnd_16 : decode cX9_atEnd 16 = .ok (.ireturn, 1) := by decide +kernel
theorem dX9_isDigitAt_0 : decode cX9_isDigitAt 0 = .ok (.aload_n 0, 1) := by decide +kernel
theorem dX9_isDigitAt_1 : decode cX9_isDigitAt 1 = .ok (.getfield 19, 3) := by decide +kernel
theorem dX9_isDigitAt_4 : decode cX9_isDigitAt 4 = .ok (.ifCond .ne 37, 3) := by decide +kernel
theorem dX9_isDigitAt_41 : decode cX9_isDigitAt 41 = .ok (.iconst 0, 1) := by decide +kernel
theorem dX9_isDigitAt_42 : decode cX9_isDigitAt 42 = .ok (.ireturn, 1) := by decide +kernel
theorem dX9_stands_0 : decode cX9_stands 0 = .ok (.aload_n 0, 1) := by decide +kernel
theorem dX9_stands_1 : decode cX9_stands 1 = .ok (.getfield 19, 3) := by decide +kernel
theorem dX9_stands_4 : decode cX9_stands 4 = .ok (.ifCond .ne 25, 3) := by decide +kernel
theorem dX9_stands_29 : decode cX9_stands 29 = .ok (.iconst 0, 1) := by decide +kernel
theorem dX9_stands_30 : decode cX9_stands 30 = .ok (.ireturn, 1) := by decide +kernel
theorem dX9_takeSign_0 : decode cX9_takeSign 0 = .ok (.aload_n 0, 1) := by decide +kernel
theorem dX9_takeSign_1 : decode cX9_takeSign 1 = .ok (.aload_n 0, 1) := by decide +kernel
theorem dX9_takeSign_2 : decode cX9_takeSign 2 = .ok (.getfield 26, 3) := by decide +kernel
theorem dX9_takeSign_5 : decode cX9_takeSign 5 = .ok (.iload_n 1, 1) := by decide +kernel
theorem dX9_takeSign_6 : decode cX9_takeSign 6 = .ok (.invokevirtual 29, 3) := by decide +kernel
theorem dX9_takeSign_9 : decode cX9_takeSign 9 = .ok (.istore_n 2, 1) := by decide +kernel
theorem dX9_takeSign_10 : decode cX9_takeSign 10 = .ok (.iload_n 2, 1) := by decide +kernel
theorem dX9_takeSign_11 : decode cX9_takeSign 11 = .ok (.ifCond .eq 13, 3) := by decide +kernel
theorem dX9_takeSign_24 : decode cX9_takeSign 24 = .ok (.iload_n 2, 1) := by decide +kernel
theorem dX9_takeSign_25 : decode cX9_takeSign 25 = .ok (.ireturn, 1) := by decide +kernel
set_option maxHeartbeats 4000000 in
set_option maxRecDepth 100000 in
theorem c_Rule_clear (l : Launch) (dC : Nat → ClassId) (dI : Nat → Nat → Nat) (ru : Nat) (rs0 : Nat) (rs1 : Nat) (rs2 : Nat) (rs3 : Nat) (rs4 : Nat) (sz : Nat) : Met l yX6_clear (ws_u yX6_clear cX6_clear 1 none) ({ frames := 0, cells := 0, slots := 0, locals := 0 }) (va_Pc [.ref ru] (cPre (dC, dI) [] [(ru, .inr (6, [.ref rs0, .int 0, .ref rs1, .ref rs2, .ref rs3, .int 0, .ref rs4]))] sz)) (va_Qv (fun _ : Unit => True) (fun _ t => cPost (dC, dI) [] [(ru, .inr (6, [.ref rs0, .int 0, .ref rs1, .ref rs2, .ref rs3, .int 0, .ref rs4]))] (va_A [(ru, .inr (6, [.ref rs0, .int 0, .ref rs1, .ref rs2, .ref rs3, .int 0, .ref rs4]))] sz) t) (va_A [(ru, .inr (6, [.ref rs0, .int 0, .ref rs1, .ref rs2, .ref rs3, .int 0, .ref rs4]))] sz)) 0 0 (va_A [(ru, .inr (6, [.ref rs0, .int 0, .ref rs1, .ref rs2, .ref rs3, .int 0, .ref rs4]))] sz) := by
  refine Met.ofW (cc := cX6_clear) (maxL := 1) (ret := none) (by decide) rfl ?_
  intro p e s m args below meth c s₁ B hml hv
  obtain ⟨rfl, hsz, hP, hK, hD0, hE⟩ := hv
  have hx := B.exec
  have hb := B.bytes
  have hr := B.returns
  have hts0 := atoms_spec (ws := ws_u yX6_clear cX6_clear 1 none) B.pre
  have hts : ∀ w ∈ gT, w.before _ s = true := fun w h => hts0 w (List.mem_cons_of_mem _ h)
  have hown : s.vm.findClass RX6 = some m.cls := findClass_of_methodNamed B.named
  have hlocks := B.notSynchronized
  subst hsz
  have hD := hD0.self (sz := s.heap.size)
  generalize hAe : va_A [(ru, .inr (6, [.ref rs0, .int 0, .ref rs1, .ref rs2, .ref rs3, .int 0, .ref rs4]))] s.heap.size = A at hD ⊢
  have hA : ∀ q : Nat, s.heap.size ≤ q → A q := fun q h => by rw [← hAe]; exact Or.inr h
  have hS : va_S A s.heap s.heap [] := va_S.rf
  have hl := lv_entry ([.ref ru]) (n := 1) (Nat.le_of_ble_eq_true rfl)
  rw [lg_entry_eq]
  generalize (lg_sl ([.ref ru]) ++ List.replicate (1 - (lg_sl ([.ref ru])).length) Slot.unset).toArray = ls at hl ⊢
  have hl : lv_has ls 1 [(0, .ref ru)] := hl
  have hP : va_P (dC, dI) vwCl [(ru, .inr (6, [.ref rs0, .int 0, .ref rs1, .ref rs2, .ref rs3, .int 0, .ref rs4]))] s.heap := hP
  try clear hAe
  refine lv_aload_n hx hb dX6_clear_0 rfl (lv_at hl 0 rfl) ?_
  refine lv_iconst (v := 0) hx hb dX6_clear_1 (by decide) ?_
  refine va_put (D := (dC, dI)) (ci := 6) (v := .int 0) (C := RX6) (T := TX6) (N := 7) hx hb hts iX6 tyX6 tyX6_ok nmX6 hown hK hP hD hS 0 rfl rfl 1 (by decide) (hts _ tw_184) (fun _ h9 => h9) rfl (tyX6_ok 1 (by decide)) rfl rfl (Nat.le_of_ble_eq_true rfl) dX6_clear_2 (fun H locs hP hD hS => ?_)
  have hP : va_P (dC, dI) vwCl [(ru, .inr (6, [.ref rs0, .int 0, .ref rs1, .ref rs2, .ref rs3, .int 0, .ref rs4]))] H := hP
  have hD : va_D A [(ru, .inr (6, [.ref rs0, .int 0, .ref rs1, .ref rs2, .ref rs3, .int 0, .ref rs4]))] := hD
  refine lv_aload_n hx hb dX6_clear_5 rfl (lv_at hl 0 rfl) ?_
  refine lv_iconst (v := 0) hx hb dX6_clear_6 (by decide) ?_
  refine va_put (D := (dC, dI)) (ci := 6) (v := .int 0) (C := RX6) (T := TX6) (N := 7) hx hb hts iX6 tyX6 tyX6_ok nmX6 hown hK hP hD hS 0 rfl rfl 5 (by decide) (hts _ tw_188) (fun _ h9 => h9) rfl (tyX6_ok 5 (by decide)) rfl rfl (Nat.le_of_ble_eq_true rfl) dX6_clear_7 (fun H locs hP hD hS => ?_)
  have hP : va_P (dC, dI) vwCl [(ru, .inr (6, [.ref rs0, .int 0, .ref rs1, .ref rs2, .ref rs3, .int 0, .ref rs4]))] H := hP
  have hD : va_D A [(ru, .inr (6, [.ref rs0, .int 0, .ref rs1, .ref rs2, .ref rs3, .int 0, .ref rs4]))] := hD
  have hP9 := hP.sub (ws' := [(ru, .inr (6, [.ref rs0, .int 0, .ref rs1, .ref rs2, .ref rs3, .int 0, .ref rs4]))]) [0] rfl
  have hD9 := hD.sub (ws' := [(ru, .inr (6, [.ref rs0, .int 0, .ref rs1, .ref rs2, .ref rs3, .int 0, .ref rs4]))]) [0] (by decide) rfl
  have hK9 := hK.sub (tys' := []) [] rfl
  refine W.widen (k := 0) (n := 0) (Nat.le_of_ble_eq_true rfl) (Nat.le_of_ble_eq_true rfl) ?_
  exact W.vret hx hb hr (fun t ht hW => ⟨⟨(), rfl, trivial, ⟨by rw [ht]; exact hP9, va_K.moved hW.alike hK9, hD9⟩⟩, hS.F ht⟩) hS.2.2 dX6_clear_10
set_option maxHeartbeats 4000000 in
set_option maxRecDepth 100000 in
theorem c_Rule_add (l : Launch) (dC : Nat → ClassId) (dI : Nat → Nat → Nat) (ru : Nat) (rs0 : Nat) (rs1 : Nat) (rs2 : Nat) (rs3 : Nat) (rs4 : Nat) (rsk0 : ClassId) (f0 : Nat → Int32) (a0 : Int32) (sz : Nat) : Met l yX6_add (ws_u yX6_add cX6_add 2 none) ({ frames := 0, cells := 0, slots := 0, locals := 0 }) (va_Pc [.ref ru, .int a0] (cPre (dC, dI) [(rsk0, .int)] [(ru, .inr (6, [.ref rs0, .int 0, .ref rs1, .ref rs2, .ref rs3, .int 0, .ref rs4])), (rs0, .inl (rsk0, 400, .inl f0))] sz)) (va_Qv (fun _ : Unit => True) (fun _ t => ∃ (g0 : Nat → Int32), cPost (dC, dI) [(rsk0, .int)] [(ru, .inr (6, [.ref rs0, .int 1, .ref rs1, .ref rs2, .ref rs3, .int 0, .ref rs4])), (rs0, .inl (rsk0, 400, .inl g0))] (va_A [(ru, .inr (6, [.ref rs0, .int 0, .ref rs1, .ref rs2, .ref rs3, .int 0, .ref rs4])), (rs0, .inl (rsk0, 400, .inl f0))] sz) t) (va_A [(ru, .inr (6, [.ref rs0, .int 0, .ref rs1, .ref rs2, .ref rs3, .int 0, .ref rs4])), (rs0, .inl (rsk0, 400, .inl f0))] sz)) 0 0 (va_A [(ru, .inr (6, [.ref rs0, .int 0, .ref rs1, .ref rs2, .ref rs3, .int 0, .ref rs4])), (rs0, .inl (rsk0, 400, .inl f0))] sz) := by
  refine Met.ofW (cc := cX6_add) (maxL := 2) (ret := none) (by decide) rfl ?_
  intro p e s m args below meth c s₁ B hml hv
  obtain ⟨rfl, hsz, hP, hK, hD0, hE⟩ := hv
  have hx := B.exec
  have hb := B.bytes
  have hr := B.returns
  have hts0 := atoms_spec (ws := ws_u yX6_add cX6_add 2 none) B.pre
  have hts : ∀ w ∈ gT, w.before _ s = true := fun w h => hts0 w (List.mem_cons_of_mem _ h)
  have hown : s.vm.findClass RX6 = some m.cls := findClass_of_methodNamed B.named
  have hlocks := B.notSynchronized
  subst hsz
  have hD := hD0.self (sz := s.heap.size)
  generalize hAe : va_A [(ru, .inr (6, [.ref rs0, .int 0, .ref rs1, .ref rs2, .ref rs3, .int 0, .ref rs4])), (rs0, .inl (rsk0, 400, .inl f0))] s.heap.size = A at hD ⊢
  have hA : ∀ q : Nat, s.heap.size ≤ q → A q := fun q h => by rw [← hAe]; exact Or.inr h
  have hS : va_S A s.heap s.heap [] := va_S.rf
  have hl := lv_entry ([.ref ru, .int a0]) (n := 2) (Nat.le_of_ble_eq_true rfl)
  rw [lg_entry_eq]
  generalize (lg_sl ([.ref ru, .int a0]) ++ List.replicate (2 - (lg_sl ([.ref ru, .int a0])).length) Slot.unset).toArray = ls at hl ⊢
  have hl : lv_has ls 2 [(0, .ref ru), (1, .int a0)] := hl
  have hP : va_P (dC, dI) vwCl [(ru, .inr (6, [.ref rs0, .int 0, .ref rs1, .ref rs2, .ref rs3, .int 0, .ref rs4])), (rs0, .inl (rsk0, 400, .inl f0))] s.heap := hP
  try clear hAe
  refine lv_aload_n hx hb dX6_add_0 rfl (lv_at hl 0 rfl) ?_
  refine va_get (D := (dC, dI)) (ci := 6) (v := .int 0) (C := RX6) (T := TX6) (N := 7) hx hb hts iX6 hown hK hP 0 rfl rfl 1 (by decide) (hts _ tw_184) (fun _ h9 => h9) rfl dX6_add_1 ?_
  refine lv_aload_n hx hb dX6_add_4 rfl (lv_at hl 0 rfl) ?_
  refine va_get (D := (dC, dI)) (ci := 6) (v := .ref rs0) (C := RX6) (T := TX6) (N := 7) hx hb hts iX6 hown hK hP 0 rfl rfl 0 (by decide) (hts _ tw_183) (fun _ h9 => h9) rfl dX6_add_5 ?_
  refine va_alen (v := 400) hx hb hK hP 1 0 rfl rfl rfl dX6_add_8 ?_
  refine lv_icmp_ge (tgt := 32) hx hb dX6_add_9 (by decide) (fun c_1 => absurd c_1 (by decide)) (fun c_1 => ?_)
  refine lv_aload_n hx hb dX6_add_12 rfl (lv_at hl 0 rfl) ?_
  refine va_get (D := (dC, dI)) (ci := 6) (v := .ref rs0) (C := RX6) (T := TX6) (N := 7) hx hb hts iX6 hown hK hP 0 rfl rfl 0 (by decide) (hts _ tw_183) (fun _ h9 => h9) rfl dX6_add_13 ?_
  refine lv_aload_n hx hb dX6_add_16 rfl (lv_at hl 0 rfl) ?_
  refine va_get (D := (dC, dI)) (ci := 6) (v := .int 0) (C := RX6) (T := TX6) (N := 7) hx hb hts iX6 hown hK hP 0 rfl rfl 1 (by decide) (hts _ tw_184) (fun _ h9 => h9) rfl dX6_add_17 ?_
  refine lv_iload_n hx hb dX6_add_20 rfl (lv_at hl 1 rfl) ?_
  refine va_iast hx hb hK hP hD hS 1 0 rfl rfl (show vp_in 0 400 from (by decide : ¬ ((0 : Int32) < 0 ∨ 400 ≤ (0 : Int32).toNatClampNeg))) dX6_add_21 (fun H locs hP hD hS => ?_)
  have hP : va_P (dC, dI) vwCl [(ru, .inr (6, [.ref rs0, .int 0, .ref rs1, .ref rs2, .ref rs3, .int 0, .ref rs4])), (rs0, .inl (rsk0, 400, .inl (upd f0 (Int32.toNatClampNeg 0) a0)))] H := hP
  have hD : va_D A [(ru, .inr (6, [.ref rs0, .int 0, .ref rs1, .ref rs2, .ref rs3, .int 0, .ref rs4])), (rs0, .inl (rsk0, 400, .inl (upd f0 (Int32.toNatClampNeg 0) a0)))] := hD
  generalize upd f0 (Int32.toNatClampNeg 0) a0 = f_2 at hP hD
  refine lv_aload_n hx hb dX6_add_22 rfl (lv_at hl 0 rfl) ?_
  refine lv_dup hx hb dX6_add_23 rfl ?_
  refine va_get (D := (dC, dI)) (ci := 6) (v := .int 0) (C := RX6) (T := TX6) (N := 7) hx hb hts iX6 hown hK hP 0 rfl rfl 1 (by decide) (hts _ tw_184) (fun _ h9 => h9) rfl dX6_add_24 ?_
  refine lv_iconst (v := 1) hx hb dX6_add_27 (by decide) ?_
  refine lv_iadd hx hb dX6_add_28 ?_
  refine lv_topi (fun x_3 ex_3 => ?_)
  obtain rfl : x_3 = 1 := ex_3.trans (by decide)
  refine va_put (D := (dC, dI)) (ci := 6) (v := .int 1) (C := RX6) (T := TX6) (N := 7) hx hb hts iX6 tyX6 tyX6_ok nmX6 hown hK hP hD hS 0 rfl rfl 1 (by decide) (hts _ tw_184) (fun _ h9 => h9) rfl (tyX6_ok 1 (by decide)) rfl rfl (Nat.le_of_ble_eq_true rfl) dX6_add_29 (fun H locs hP hD hS => ?_)
  have hP : va_P (dC, dI) vwCl [(ru, .inr (6, [.ref rs0, .int 1, .ref rs1, .ref rs2, .ref rs3, .int 0, .ref rs4])), (rs0, .inl (rsk0, 400, .inl f_2))] H := hP
  have hD : va_D A [(ru, .inr (6, [.ref rs0, .int 1, .ref rs1, .ref rs2, .ref rs3, .int 0, .ref rs4])), (rs0, .inl (rsk0, 400, .inl f_2))] := hD
  have hP9 := hP.sub (ws' := [(ru, .inr (6, [.ref rs0, .int 1, .ref rs1, .ref rs2, .ref rs3, .int 0, .ref rs4])), (rs0, .inl (rsk0, 400, .inl f_2))]) [0, 1] rfl
  have hD9 := hD.sub (ws' := [(ru, .inr (6, [.ref rs0, .int 1, .ref rs1, .ref rs2, .ref rs3, .int 0, .ref rs4])), (rs0, .inl (rsk0, 400, .inl f_2))]) [0, 1] (by decide) rfl
  have hK9 := hK.sub (tys' := [(rsk0, .int)]) [0] rfl
  refine W.widen (k := 0) (n := 0) (Nat.le_of_ble_eq_true rfl) (Nat.le_of_ble_eq_true rfl) ?_
  exact W.vret hx hb hr (fun t ht hW => ⟨⟨(), rfl, trivial, ⟨f_2, by rw [ht]; exact hP9, va_K.moved hW.alike hK9, hD9⟩⟩, hS.F ht⟩) hS.2.2 dX6_add_32
set_option maxHeartbeats 4000000 in
set_option maxRecDepth 100000 in
theorem c_beginClause (l : Launch) (dC : Nat → ClassId) (dI : Nat → Nat → Nat) (ru : Nat) (rs0 : Nat) (rs1 : Nat) (rs2 : Nat) (rs3 : Nat) (rs4 : Nat) (rsk1 : ClassId) (f1 : Nat → Int32) (sz : Nat) : Met l yX6_beginClause (ws_u yX6_beginClause cX6_beginClause 1 none) ({ frames := 0, cells := 0, slots := 0, locals := 0 }) (va_Pc [.ref ru] (cPre (dC, dI) [(rsk1, .int)] [(ru, .inr (6, [.ref rs0, .int 0, .ref rs1, .ref rs2, .ref rs3, .int 0, .ref rs4])), (rs1, .inl (rsk1, 12, .inl f1))] sz)) (va_Qv (fun _ : Unit => True) (fun _ t => ∃ (g1 : Nat → Int32), cPost (dC, dI) [(rsk1, .int)] [(ru, .inr (6, [.ref rs0, .int 0, .ref rs1, .ref rs2, .ref rs3, .int 0, .ref rs4])), (rs1, .inl (rsk1, 12, .inl g1))] (va_A [(ru, .inr (6, [.ref rs0, .int 0, .ref rs1, .ref rs2, .ref rs3, .int 0, .ref rs4])), (rs1, .inl (rsk1, 12, .inl f1))] sz) t) (va_A [(ru, .inr (6, [.ref rs0, .int 0, .ref rs1, .ref rs2, .ref rs3, .int 0, .ref rs4])), (rs1, .inl (rsk1, 12, .inl f1))] sz)) 0 0 (va_A [(ru, .inr (6, [.ref rs0, .int 0, .ref rs1, .ref rs2, .ref rs3, .int 0, .ref rs4])), (rs1, .inl (rsk1, 12, .inl f1))] sz) := by
  refine Met.ofW (cc := cX6_beginClause) (maxL := 1) (ret := none) (by decide) rfl ?_
  intro p e s m args below meth c s₁ B hml hv
  obtain ⟨rfl, hsz, hP, hK, hD0, hE⟩ := hv
  have hx := B.exec
  have hb := B.bytes
  have hr := B.returns
  have hts0 := atoms_spec (ws := ws_u yX6_beginClause cX6_beginClause 1 none) B.pre
  have hts : ∀ w ∈ gT, w.before _ s = true := fun w h => hts0 w (List.mem_cons_of_mem _ h)
  have hown : s.vm.findClass RX6 = some m.cls := findClass_of_methodNamed B.named
  have hlocks := B.notSynchronized
  subst hsz
  have hD := hD0.self (sz := s.heap.size)
  generalize hAe : va_A [(ru, .inr (6, [.ref rs0, .int 0, .ref rs1, .ref rs2, .ref rs3, .int 0, .ref rs4])), (rs1, .inl (rsk1, 12, .inl f1))] s.heap.size = A at hD ⊢
  have hA : ∀ q : Nat, s.heap.size ≤ q → A q := fun q h => by rw [← hAe]; exact Or.inr h
  have hS : va_S A s.heap s.heap [] := va_S.rf
  have hl := lv_entry ([.ref ru]) (n := 1) (Nat.le_of_ble_eq_true rfl)
  rw [lg_entry_eq]
  generalize (lg_sl ([.ref ru]) ++ List.replicate (1 - (lg_sl ([.ref ru])).length) Slot.unset).toArray = ls at hl ⊢
  have hl : lv_has ls 1 [(0, .ref ru)] := hl
  have hP : va_P (dC, dI) vwCl [(ru, .inr (6, [.ref rs0, .int 0, .ref rs1, .ref rs2, .ref rs3, .int 0, .ref rs4])), (rs1, .inl (rsk1, 12, .inl f1))] s.heap := hP
  try clear hAe
  refine lv_aload_n hx hb dX6_beginClause_0 rfl (lv_at hl 0 rfl) ?_
  refine va_get (D := (dC, dI)) (ci := 6) (v := .int 0) (C := RX6) (T := TX6) (N := 7) hx hb hts iX6 hown hK hP 0 rfl rfl 5 (by decide) (hts _ tw_188) (fun _ h9 => h9) rfl dX6_beginClause_1 ?_
  refine lv_bipush (v := 12) hx hb dX6_beginClause_4 (by decide) ?_
  refine lv_icmp_ge (tgt := 22) hx hb dX6_beginClause_6 (by decide) (fun c_1 => absurd c_1 (by decide)) (fun c_1 => ?_)
  refine lv_aload_n hx hb dX6_beginClause_9 rfl (lv_at hl 0 rfl) ?_
  refine va_get (D := (dC, dI)) (ci := 6) (v := .ref rs1) (C := RX6) (T := TX6) (N := 7) hx hb hts iX6 hown hK hP 0 rfl rfl 2 (by decide) (hts _ tw_185) (fun _ h9 => h9) rfl dX6_beginClause_10 ?_
  refine lv_aload_n hx hb dX6_beginClause_13 rfl (lv_at hl 0 rfl) ?_
  refine va_get (D := (dC, dI)) (ci := 6) (v := .int 0) (C := RX6) (T := TX6) (N := 7) hx hb hts iX6 hown hK hP 0 rfl rfl 5 (by decide) (hts _ tw_188) (fun _ h9 => h9) rfl dX6_beginClause_14 ?_
  refine lv_aload_n hx hb dX6_beginClause_17 rfl (lv_at hl 0 rfl) ?_
  refine va_get (D := (dC, dI)) (ci := 6) (v := .int 0) (C := RX6) (T := TX6) (N := 7) hx hb hts iX6 hown hK hP 0 rfl rfl 1 (by decide) (hts _ tw_184) (fun _ h9 => h9) rfl dX6_beginClause_18 ?_
  refine va_iast hx hb hK hP hD hS 1 0 rfl rfl (show vp_in 0 12 from (by decide : ¬ ((0 : Int32) < 0 ∨ 12 ≤ (0 : Int32).toNatClampNeg))) dX6_beginClause_21 (fun H locs hP hD hS => ?_)
  have hP : va_P (dC, dI) vwCl [(ru, .inr (6, [.ref rs0, .int 0, .ref rs1, .ref rs2, .ref rs3, .int 0, .ref rs4])), (rs1, .inl (rsk1, 12, .inl (upd f1 (Int32.toNatClampNeg 0) 0)))] H := hP
  have hD : va_D A [(ru, .inr (6, [.ref rs0, .int 0, .ref rs1, .ref rs2, .ref rs3, .int 0, .ref rs4])), (rs1, .inl (rsk1, 12, .inl (upd f1 (Int32.toNatClampNeg 0) 0)))] := hD
  generalize upd f1 (Int32.toNatClampNeg 0) 0 = f_2 at hP hD
  have hP9 := hP.sub (ws' := [(ru, .inr (6, [.ref rs0, .int 0, .ref rs1, .ref rs2, .ref rs3, .int 0, .ref rs4])), (rs1, .inl (rsk1, 12, .inl f_2))]) [0, 1] rfl
  have hD9 := hD.sub (ws' := [(ru, .inr (6, [.ref rs0, .int 0, .ref rs1, .ref rs2, .ref rs3, .int 0, .ref rs4])), (rs1, .inl (rsk1, 12, .inl f_2))]) [0, 1] (by decide) rfl
  have hK9 := hK.sub (tys' := [(rsk1, .int)]) [0] rfl
  refine W.widen (k := 0) (n := 0) (Nat.le_of_ble_eq_true rfl) (Nat.le_of_ble_eq_true rfl) ?_
  exact W.vret hx hb hr (fun t ht hW => ⟨⟨(), rfl, trivial, ⟨f_2, by rw [ht]; exact hP9, va_K.moved hW.alike hK9, hD9⟩⟩, hS.F ht⟩) hS.2.2 dX6_beginClause_22
set_option maxHeartbeats 4000000 in
set_option maxRecDepth 100000 in
theorem c_beginTest (l : Launch) (dC : Nat → ClassId) (dI : Nat → Nat → Nat) (ru : Nat) (rs0 : Nat) (rs1 : Nat) (rs2 : Nat) (rs3 : Nat) (rs4 : Nat) (rsk2 : ClassId) (f2 : Nat → Int32) (sz : Nat) : Met l yX6_beginTest (ws_u yX6_beginTest cX6_beginTest 1 none) ({ frames := 0, cells := 0, slots := 0, locals := 0 }) (va_Pc [.ref ru] (cPre (dC, dI) [(rsk2, .int)] [(ru, .inr (6, [.ref rs0, .int 1, .ref rs1, .ref rs2, .ref rs3, .int 0, .ref rs4])), (rs2, .inl (rsk2, 12, .inl f2))] sz)) (va_Qv (fun _ : Unit => True) (fun _ t => ∃ (g2 : Nat → Int32), cPost (dC, dI) [(rsk2, .int)] [(ru, .inr (6, [.ref rs0, .int 1, .ref rs1, .ref rs2, .ref rs3, .int 0, .ref rs4])), (rs2, .inl (rsk2, 12, .inl g2))] (va_A [(ru, .inr (6, [.ref rs0, .int 1, .ref rs1, .ref rs2, .ref rs3, .int 0, .ref rs4])), (rs2, .inl (rsk2, 12, .inl f2))] sz) t) (va_A [(ru, .inr (6, [.ref rs0, .int 1, .ref rs1, .ref rs2, .ref rs3, .int 0, .ref rs4])), (rs2, .inl (rsk2, 12, .inl f2))] sz)) 0 0 (va_A [(ru, .inr (6, [.ref rs0, .int 1, .ref rs1, .ref rs2, .ref rs3, .int 0, .ref rs4])), (rs2, .inl (rsk2, 12, .inl f2))] sz) := by
  refine Met.ofW (cc := cX6_beginTest) (maxL := 1) (ret := none) (by decide) rfl ?_
  intro p e s m args below meth c s₁ B hml hv
  obtain ⟨rfl, hsz, hP, hK, hD0, hE⟩ := hv
  have hx := B.exec
  have hb := B.bytes
  have hr := B.returns
  have hts0 := atoms_spec (ws := ws_u yX6_beginTest cX6_beginTest 1 none) B.pre
  have hts : ∀ w ∈ gT, w.before _ s = true := fun w h => hts0 w (List.mem_cons_of_mem _ h)
  have hown : s.vm.findClass RX6 = some m.cls := findClass_of_methodNamed B.named
  have hlocks := B.notSynchronized
  subst hsz
  have hD := hD0.self (sz := s.heap.size)
  generalize hAe : va_A [(ru, .inr (6, [.ref rs0, .int 1, .ref rs1, .ref rs2, .ref rs3, .int 0, .ref rs4])), (rs2, .inl (rsk2, 12, .inl f2))] s.heap.size = A at hD ⊢
  have hA : ∀ q : Nat, s.heap.size ≤ q → A q := fun q h => by rw [← hAe]; exact Or.inr h
  have hS : va_S A s.heap s.heap [] := va_S.rf
  have hl := lv_entry ([.ref ru]) (n := 1) (Nat.le_of_ble_eq_true rfl)
  rw [lg_entry_eq]
  generalize (lg_sl ([.ref ru]) ++ List.replicate (1 - (lg_sl ([.ref ru])).length) Slot.unset).toArray = ls at hl ⊢
  have hl : lv_has ls 1 [(0, .ref ru)] := hl
  have hP : va_P (dC, dI) vwCl [(ru, .inr (6, [.ref rs0, .int 1, .ref rs1, .ref rs2, .ref rs3, .int 0, .ref rs4])), (rs2, .inl (rsk2, 12, .inl f2))] s.heap := hP
  try clear hAe
  refine lv_aload_n hx hb dX6_beginTest_0 rfl (lv_at hl 0 rfl) ?_
  refine va_get (D := (dC, dI)) (ci := 6) (v := .int 0) (C := RX6) (T := TX6) (N := 7) hx hb hts iX6 hown hK hP 0 rfl rfl 5 (by decide) (hts _ tw_188) (fun _ h9 => h9) rfl dX6_beginTest_1 ?_
  refine lv_bipush (v := 12) hx hb dX6_beginTest_4 (by decide) ?_
  refine lv_icmp_ge (tgt := 22) hx hb dX6_beginTest_6 (by decide) (fun c_1 => absurd c_1 (by decide)) (fun c_1 => ?_)
  refine lv_aload_n hx hb dX6_beginTest_9 rfl (lv_at hl 0 rfl) ?_
  refine va_get (D := (dC, dI)) (ci := 6) (v := .ref rs2) (C := RX6) (T := TX6) (N := 7) hx hb hts iX6 hown hK hP 0 rfl rfl 3 (by decide) (hts _ tw_186) (fun _ h9 => h9) rfl dX6_beginTest_10 ?_
  refine lv_aload_n hx hb dX6_beginTest_13 rfl (lv_at hl 0 rfl) ?_
  refine va_get (D := (dC, dI)) (ci := 6) (v := .int 0) (C := RX6) (T := TX6) (N := 7) hx hb hts iX6 hown hK hP 0 rfl rfl 5 (by decide) (hts _ tw_188) (fun _ h9 => h9) rfl dX6_beginTest_14 ?_
  refine lv_aload_n hx hb dX6_beginTest_17 rfl (lv_at hl 0 rfl) ?_
  refine va_get (D := (dC, dI)) (ci := 6) (v := .int 1) (C := RX6) (T := TX6) (N := 7) hx hb hts iX6 hown hK hP 0 rfl rfl 1 (by decide) (hts _ tw_184) (fun _ h9 => h9) rfl dX6_beginTest_18 ?_
  refine va_iast hx hb hK hP hD hS 1 0 rfl rfl (show vp_in 0 12 from (by decide : ¬ ((0 : Int32) < 0 ∨ 12 ≤ (0 : Int32).toNatClampNeg))) dX6_beginTest_21 (fun H locs hP hD hS => ?_)
  have hP : va_P (dC, dI) vwCl [(ru, .inr (6, [.ref rs0, .int 1, .ref rs1, .ref rs2, .ref rs3, .int 0, .ref rs4])), (rs2, .inl (rsk2, 12, .inl (upd f2 (Int32.toNatClampNeg 0) 1)))] H := hP
  have hD : va_D A [(ru, .inr (6, [.ref rs0, .int 1, .ref rs1, .ref rs2, .ref rs3, .int 0, .ref rs4])), (rs2, .inl (rsk2, 12, .inl (upd f2 (Int32.toNatClampNeg 0) 1)))] := hD
  generalize upd f2 (Int32.toNatClampNeg 0) 1 = f_2 at hP hD
  have hP9 := hP.sub (ws' := [(ru, .inr (6, [.ref rs0, .int 1, .ref rs1, .ref rs2, .ref rs3, .int 0, .ref rs4])), (rs2, .inl (rsk2, 12, .inl f_2))]) [0, 1] rfl
  have hD9 := hD.sub (ws' := [(ru, .inr (6, [.ref rs0, .int 1, .ref rs1, .ref rs2, .ref rs3, .int 0, .ref rs4])), (rs2, .inl (rsk2, 12, .inl f_2))]) [0, 1] (by decide) rfl
  have hK9 := hK.sub (tys' := [(rsk2, .int)]) [0] rfl
  refine W.widen (k := 0) (n := 0) (Nat.le_of_ble_eq_true rfl) (Nat.le_of_ble_eq_true rfl) ?_
  exact W.vret hx hb hr (fun t ht hW => ⟨⟨(), rfl, trivial, ⟨f_2, by rw [ht]; exact hP9, va_K.moved hW.alike hK9, hD9⟩⟩, hS.F ht⟩) hS.2.2 dX6_beginTest_22
set_option maxHeartbeats 4000000 in
set_option maxRecDepth 100000 in
theorem c_endClause (l : Launch) (dC : Nat → ClassId) (dI : Nat → Nat → Nat) (ru : Nat) (rs0 : Nat) (rs1 : Nat) (rs2 : Nat) (rs3 : Nat) (rs4 : Nat) (rsk3 : ClassId) (f3 : Nat → Int32) (sz : Nat) : Met l yX6_endClause (ws_u yX6_endClause cX6_endClause 1 none) ({ frames := 0, cells := 0, slots := 0, locals := 0 }) (va_Pc [.ref ru] (cPre (dC, dI) [(rsk3, .int)] [(ru, .inr (6, [.ref rs0, .int 1, .ref rs1, .ref rs2, .ref rs3, .int 0, .ref rs4])), (rs3, .inl (rsk3, 12, .inl f3))] sz)) (va_Qv (fun _ : Unit => True) (fun _ t => cPost (dC, dI) [] [(ru, .inr (6, [.ref rs0, .int 1, .ref rs1, .ref rs2, .ref rs3, .int 1, .ref rs4]))] (va_A [(ru, .inr (6, [.ref rs0, .int 1, .ref rs1, .ref rs2, .ref rs3, .int 0, .ref rs4])), (rs3, .inl (rsk3, 12, .inl f3))] sz) t) (va_A [(ru, .inr (6, [.ref rs0, .int 1, .ref rs1, .ref rs2, .ref rs3, .int 0, .ref rs4])), (rs3, .inl (rsk3, 12, .inl f3))] sz)) 0 0 (va_A [(ru, .inr (6, [.ref rs0, .int 1, .ref rs1, .ref rs2, .ref rs3, .int 0, .ref rs4])), (rs3, .inl (rsk3, 12, .inl f3))] sz) := by
  refine Met.ofW (cc := cX6_endClause) (maxL := 1) (ret := none) (by decide) rfl ?_
  intro p e s m args below meth c s₁ B hml hv
  obtain ⟨rfl, hsz, hP, hK, hD0, hE⟩ := hv
  have hx := B.exec
  have hb := B.bytes
  have hr := B.returns
  have hts0 := atoms_spec (ws := ws_u yX6_endClause cX6_endClause 1 none) B.pre
  have hts : ∀ w ∈ gT, w.before _ s = true := fun w h => hts0 w (List.mem_cons_of_mem _ h)
  have hown : s.vm.findClass RX6 = some m.cls := findClass_of_methodNamed B.named
  have hlocks := B.notSynchronized
  subst hsz
  have hD := hD0.self (sz := s.heap.size)
  generalize hAe : va_A [(ru, .inr (6, [.ref rs0, .int 1, .ref rs1, .ref rs2, .ref rs3, .int 0, .ref rs4])), (rs3, .inl (rsk3, 12, .inl f3))] s.heap.size = A at hD ⊢
  have hA : ∀ q : Nat, s.heap.size ≤ q → A q := fun q h => by rw [← hAe]; exact Or.inr h
  have hS : va_S A s.heap s.heap [] := va_S.rf
  have hl := lv_entry ([.ref ru]) (n := 1) (Nat.le_of_ble_eq_true rfl)
  rw [lg_entry_eq]
  generalize (lg_sl ([.ref ru]) ++ List.replicate (1 - (lg_sl ([.ref ru])).length) Slot.unset).toArray = ls at hl ⊢
  have hl : lv_has ls 1 [(0, .ref ru)] := hl
  have hP : va_P (dC, dI) vwCl [(ru, .inr (6, [.ref rs0, .int 1, .ref rs1, .ref rs2, .ref rs3, .int 0, .ref rs4])), (rs3, .inl (rsk3, 12, .inl f3))] s.heap := hP
  try clear hAe
  refine lv_aload_n hx hb dX6_endClause_0 rfl (lv_at hl 0 rfl) ?_
  refine va_get (D := (dC, dI)) (ci := 6) (v := .int 0) (C := RX6) (T := TX6) (N := 7) hx hb hts iX6 hown hK hP 0 rfl rfl 5 (by decide) (hts _ tw_188) (fun _ h9 => h9) rfl dX6_endClause_1 ?_
  refine lv_bipush (v := 12) hx hb dX6_endClause_4 (by decide) ?_
  refine lv_icmp_ge (tgt := 32) hx hb dX6_endClause_6 (by decide) (fun c_1 => absurd c_1 (by decide)) (fun c_1 => ?_)
  refine lv_aload_n hx hb dX6_endClause_9 rfl (lv_at hl 0 rfl) ?_
  refine va_get (D := (dC, dI)) (ci := 6) (v := .ref rs3) (C := RX6) (T := TX6) (N := 7) hx hb hts iX6 hown hK hP 0 rfl rfl 4 (by decide) (hts _ tw_187) (fun _ h9 => h9) rfl dX6_endClause_10 ?_
  refine lv_aload_n hx hb dX6_endClause_13 rfl (lv_at hl 0 rfl) ?_
  refine va_get (D := (dC, dI)) (ci := 6) (v := .int 0) (C := RX6) (T := TX6) (N := 7) hx hb hts iX6 hown hK hP 0 rfl rfl 5 (by decide) (hts _ tw_188) (fun _ h9 => h9) rfl dX6_endClause_14 ?_
  refine lv_aload_n hx hb dX6_endClause_17 rfl (lv_at hl 0 rfl) ?_
  refine va_get (D := (dC, dI)) (ci := 6) (v := .int 1) (C := RX6) (T := TX6) (N := 7) hx hb hts iX6 hown hK hP 0 rfl rfl 1 (by decide) (hts _ tw_184) (fun _ h9 => h9) rfl dX6_endClause_18 ?_
  refine va_iast hx hb hK hP hD hS 1 0 rfl rfl (show vp_in 0 12 from (by decide : ¬ ((0 : Int32) < 0 ∨ 12 ≤ (0 : Int32).toNatClampNeg))) dX6_endClause_21 (fun H locs hP hD hS => ?_)
  have hP : va_P (dC, dI) vwCl [(ru, .inr (6, [.ref rs0, .int 1, .ref rs1, .ref rs2, .ref rs3, .int 0, .ref rs4])), (rs3, .inl (rsk3, 12, .inl (upd f3 (Int32.toNatClampNeg 0) 1)))] H := hP
  have hD : va_D A [(ru, .inr (6, [.ref rs0, .int 1, .ref rs1, .ref rs2, .ref rs3, .int 0, .ref rs4])), (rs3, .inl (rsk3, 12, .inl (upd f3 (Int32.toNatClampNeg 0) 1)))] := hD
  generalize upd f3 (Int32.toNatClampNeg 0) 1 = f_2 at hP hD
  refine lv_aload_n hx hb dX6_endClause_22 rfl (lv_at hl 0 rfl) ?_
  refine lv_dup hx hb dX6_endClause_23 rfl ?_
  refine va_get (D := (dC, dI)) (ci := 6) (v := .int 0) (C := RX6) (T := TX6) (N := 7) hx hb hts iX6 hown hK hP 0 rfl rfl 5 (by decide) (hts _ tw_188) (fun _ h9 => h9) rfl dX6_endClause_24 ?_
  refine lv_iconst (v := 1) hx hb dX6_endClause_27 (by decide) ?_
  refine lv_iadd hx hb dX6_endClause_28 ?_
  refine lv_topi (fun x_3 ex_3 => ?_)
  obtain rfl : x_3 = 1 := ex_3.trans (by decide)
  refine va_put (D := (dC, dI)) (ci := 6) (v := .int 1) (C := RX6) (T := TX6) (N := 7) hx hb hts iX6 tyX6 tyX6_ok nmX6 hown hK hP hD hS 0 rfl rfl 5 (by decide) (hts _ tw_188) (fun _ h9 => h9) rfl (tyX6_ok 5 (by decide)) rfl rfl (Nat.le_of_ble_eq_true rfl) dX6_endClause_29 (fun H locs hP hD hS => ?_)
  have hP : va_P (dC, dI) vwCl [(ru, .inr (6, [.ref rs0, .int 1, .ref rs1, .ref rs2, .ref rs3, .int 1, .ref rs4])), (rs3, .inl (rsk3, 12, .inl f_2))] H := hP
  have hD : va_D A [(ru, .inr (6, [.ref rs0, .int 1, .ref rs1, .ref rs2, .ref rs3, .int 1, .ref rs4])), (rs3, .inl (rsk3, 12, .inl f_2))] := hD
  have hP9 := hP.sub (ws' := [(ru, .inr (6, [.ref rs0, .int 1, .ref rs1, .ref rs2, .ref rs3, .int 1, .ref rs4]))]) [0] rfl
  have hD9 := hD.sub (ws' := [(ru, .inr (6, [.ref rs0, .int 1, .ref rs1, .ref rs2, .ref rs3, .int 1, .ref rs4]))]) [0] (by decide) rfl
  have hK9 := hK.sub (tys' := []) [] rfl
  refine W.widen (k := 0) (n := 0) (Nat.le_of_ble_eq_true rfl) (Nat.le_of_ble_eq_true rfl) ?_
  exact W.vret hx hb hr (fun t ht hW => ⟨⟨(), rfl, trivial, ⟨by rw [ht]; exact hP9, va_K.moved hW.alike hK9, hD9⟩⟩, hS.F ht⟩) hS.2.2 dX6_endClause_32
set_option maxHeartbeats 4000000 in
set_option maxRecDepth 100000 in
theorem c_stands (l : Launch) (dC : Nat → ClassId) (dI : Nat → Nat → Nat) (tp : Nat) (tb : Nat) (a0 : Int32) (sz : Nat) : Met l yX9_stands (ws_u yX9_stands cX9_stands 3 (some .boolean)) ({ frames := 0, cells := 0, slots := 0, locals := 0 }) (va_Pc [.ref tp, .int 0, .int a0] (cPre (dC, dI) [] [(tp, .inr (9, [.ref tb, .int 0, .int 0, .int 1]))] sz)) (va_Qi (fun (r : Int32) (_ : Unit) => r = 0) (fun _ t => cPost (dC, dI) [] [(tp, .inr (9, [.ref tb, .int 0, .int 0, .int 1]))] (va_A [(tp, .inr (9, [.ref tb, .int 0, .int 0, .int 1]))] sz) t) (va_A [(tp, .inr (9, [.ref tb, .int 0, .int 0, .int 1]))] sz)) 0 0 (va_A [(tp, .inr (9, [.ref tb, .int 0, .int 0, .int 1]))] sz) := by
  refine Met.ofW (cc := cX9_stands) (maxL := 3) (ret := (some .boolean)) (by decide) rfl ?_
  intro p e s m args below meth c s₁ B hml hv
  obtain ⟨rfl, hsz, hP, hK, hD0, hE⟩ := hv
  have hx := B.exec
  have hb := B.bytes
  have hr := B.returns
  have hts0 := atoms_spec (ws := ws_u yX9_stands cX9_stands 3 (some .boolean)) B.pre
  have hts : ∀ w ∈ gT, w.before _ s = true := fun w h => hts0 w (List.mem_cons_of_mem _ h)
  have hown : s.vm.findClass RX9 = some m.cls := findClass_of_methodNamed B.named
  have hlocks := B.notSynchronized
  subst hsz
  have hD := hD0.self (sz := s.heap.size)
  generalize hAe : va_A [(tp, .inr (9, [.ref tb, .int 0, .int 0, .int 1]))] s.heap.size = A at hD ⊢
  have hA : ∀ q : Nat, s.heap.size ≤ q → A q := fun q h => by rw [← hAe]; exact Or.inr h
  have hS : va_S A s.heap s.heap [] := va_S.rf
  have hl := lv_entry ([.ref tp, .int 0, .int a0]) (n := 3) (Nat.le_of_ble_eq_true rfl)
  rw [lg_entry_eq]
  generalize (lg_sl ([.ref tp, .int 0, .int a0]) ++ List.replicate (3 - (lg_sl ([.ref tp, .int 0, .int a0])).length) Slot.unset).toArray = ls at hl ⊢
  have hl : lv_has ls 3 [(0, .ref tp), (1, .int 0), (2, .int a0)] := hl
  have hP : va_P (dC, dI) vwCl [(tp, .inr (9, [.ref tb, .int 0, .int 0, .int 1]))] s.heap := hP
  try clear hAe
  refine lv_aload_n hx hb dX9_stands_0 rfl (lv_at hl 0 rfl) ?_
  refine va_get (D := (dC, dI)) (ci := 9) (v := .int 1) (C := RX9) (T := TX9) (N := 4) hx hb hts iX9 hown hK hP 0 rfl rfl 3 (by decide) (hts _ tw_44) (fun _ h9 => h9) rfl dX9_stands_1 ?_
  refine lv_if_ne (tgt := 29) hx hb dX9_stands_4 (by decide) (fun c_1 => ?_) (fun c_1 => absurd c_1 (by decide))
  refine lv_iconst (v := 0) hx hb dX9_stands_29 (by decide) ?_
  have hP9 := hP.sub (ws' := [(tp, .inr (9, [.ref tb, .int 0, .int 0, .int 1]))]) [0] rfl
  have hD9 := hD.sub (ws' := [(tp, .inr (9, [.ref tb, .int 0, .int 0, .int 1]))]) [0] (by decide) rfl
  have hK9 := hK.sub (tys' := []) [] rfl
  refine W.widen (k := 0) (n := 0) (Nat.le_of_ble_eq_true rfl) (Nat.le_of_ble_eq_true rfl) ?_
  exact W.zret (v := 0) hx hb hr rfl (fun t ht hW => ⟨⟨0, (), rfl, rfl, ⟨by rw [ht]; exact hP9, va_K.moved hW.alike hK9, hD9⟩⟩, hS.F ht⟩) hS.2.2 dX9_stands_30
set_option maxHeartbeats 4000000 in
set_option maxRecDepth 100000 in
theorem c_takeSign (l : Launch) (dC : Nat → ClassId) (dI : Nat → Nat → Nat) (tp : Nat) (tb : Nat) (a0 : Int32) (sz : Nat) : Met l yX9_takeSign (ws_u yX9_takeSign cX9_takeSign 3 (some .boolean)) ({ frames := 1, cells := 0, slots := 0, locals := 22 }) (va_Pc [.ref tp, .int a0] (cPre (dC, dI) [] [(tp, .inr (9, [.ref tb, .int 0, .int 0, .int 1]))] sz)) (va_Qi (fun (r : Int32) (_ : Unit) => r = 0) (fun _ t => cPost (dC, dI) [] [(tp, .inr (9, [.ref tb, .int 0, .int 0, .int 1]))] (va_A [(tp, .inr (9, [.ref tb, .int 0, .int 0, .int 1]))] sz) t) (va_A [(tp, .inr (9, [.ref tb, .int 0, .int 0, .int 1]))] sz)) 0 0 (va_A [(tp, .inr (9, [.ref tb, .int 0, .int 0, .int 1]))] sz) := by
  refine Met.ofW (cc := cX9_takeSign) (maxL := 3) (ret := (some .boolean)) (by decide) rfl ?_
  intro p e s m args below meth c s₁ B hml hv
  obtain ⟨rfl, hsz, hP, hK, hD0, hE⟩ := hv
  have hx := B.exec
  have hb := B.bytes
  have hr := B.returns
  have hts0 := atoms_spec (ws := ws_u yX9_takeSign cX9_takeSign 3 (some .boolean)) B.pre
  have hts : ∀ w ∈ gT, w.before _ s = true := fun w h => hts0 w (List.mem_cons_of_mem _ h)
  have hown : s.vm.findClass RX9 = some m.cls := findClass_of_methodNamed B.named
  have hlocks := B.notSynchronized
  subst hsz
  have hD := hD0.self (sz := s.heap.size)
  generalize hAe : va_A [(tp, .inr (9, [.ref tb, .int 0, .int 0, .int 1]))] s.heap.size = A at hD ⊢
  have hA : ∀ q : Nat, s.heap.size ≤ q → A q := fun q h => by rw [← hAe]; exact Or.inr h
  have hS : va_S A s.heap s.heap [] := va_S.rf
  have hl := lv_entry ([.ref tp, .int a0]) (n := 3) (Nat.le_of_ble_eq_true rfl)
  rw [lg_entry_eq]
  generalize (lg_sl ([.ref tp, .int a0]) ++ List.replicate (3 - (lg_sl ([.ref tp, .int a0])).length) Slot.unset).toArray = ls at hl ⊢
  have hl : lv_has ls 3 [(0, .ref tp), (1, .int a0)] := hl
  have hP : va_P (dC, dI) vwCl [(tp, .inr (9, [.ref tb, .int 0, .int 0, .int 1]))] s.heap := hP
  try clear hAe
  refine lv_aload_n hx hb dX9_takeSign_0 rfl (lv_at hl 0 rfl) ?_
  refine lv_aload_n hx hb dX9_takeSign_1 rfl (lv_at hl 0 rfl) ?_
  refine va_get (D := (dC, dI)) (ci := 9) (v := .int 0) (C := RX9) (T := TX9) (N := 4) hx hb hts iX9 hown hK hP 0 rfl rfl 2 (by decide) (hts _ tw_41) (fun _ h9 => h9) rfl dX9_takeSign_2 ?_
  refine lv_iload_n hx hb dX9_takeSign_5 rfl (lv_at hl 1 rfl) ?_
  have hPc := hP.sub (ws' := [(tp, .inr (9, [.ref tb, .int 0, .int 0, .int 1]))]) [0] rfl
  have hDc := hD.sub (ws' := [(tp, .inr (9, [.ref tb, .int 0, .int 0, .int 1]))]) [0] (by decide) rfl
  have hKc := hK.sub (tys' := []) [] rfl
  have hFc := va_free (wc := [(tp, .inr (9, [.ref tb, .int 0, .int 0, .int 1]))]) hD hS hA [0] rfl
  refine va_calli (va_runV (As := [.int 0, .int a0]) (rest := []) ⟨hx, hb, hml, hown, hts⟩ (c_stands l dC dI tp tb a0  s.heap.size) (cwV 2 hts (gUV tw_606 tw_608 ts_0_7 tw_2 tw_609) rfl rfl rfl (by decide +kernel) ⟨(Nat.le_of_ble_eq_true rfl), (Nat.le_of_ble_eq_true rfl)⟩) ⟨cPre.blind, va_recv hKc hPc (ci := 9) (q0 := 0) rfl rfl, cPre.use hPc hKc hDc hE⟩ rfl rfl hl.1 rfl (lv_room (Nat.le_of_ble_eq_true rfl)) dX9_takeSign_6 ⟨(Nat.le_of_ble_eq_true rfl), (Nat.le_of_ble_eq_true rfl)⟩) hS (fun q _ h => hFc q h) hFc (fun r_1 u t H1 locs ht hvm hw hB hz1 hk1 hS => ?_)
  obtain ⟨hP1, hK1, hD1⟩ := hB
  rw [ht] at hP1
  obtain ⟨hP, hD⟩ := va_join (wr := []) (w1 := [(tp, .inr (9, [.ref tb, .int 0, .int 0, .int 1]))]) hP hD [0] [] rfl rfl (by decide) (by decide) hk1 hFc hP1 hD1
  generalize H1 = H at hP hS ⊢
  have hP : va_P (dC, dI) vwCl [(tp, .inr (9, [.ref tb, .int 0, .int 0, .int 1]))] H := hP
  have hD : va_D A [(tp, .inr (9, [.ref tb, .int 0, .int 0, .int 1]))] := hD
  obtain rfl : r_1 = 0 := hw
  refine lv_istore_n (lv' := [(2, .int 0), (0, .ref tp), (1, .int a0)]) hx hb dX9_takeSign_9 rfl hl (by decide) rfl (fun ls hl => ?_)
  refine lv_iload_n hx hb dX9_takeSign_10 rfl (lv_at hl 0 rfl) ?_
  refine lv_if_eq (tgt := 24) hx hb dX9_takeSign_11 (by decide) (fun c_2 => ?_) (fun c_2 => absurd (by decide) c_2)
  refine lv_iload_n hx hb dX9_takeSign_24 rfl (lv_at hl 0 rfl) ?_
  have hP9 := hP.sub (ws' := [(tp, .inr (9, [.ref tb, .int 0, .int 0, .int 1]))]) [0] rfl
  have hD9 := hD.sub (ws' := [(tp, .inr (9, [.ref tb, .int 0, .int 0, .int 1]))]) [0] (by decide) rfl
  have hK9 := hK.sub (tys' := []) [] rfl
  refine W.widen (k := 0) (n := 0) (Nat.le_of_ble_eq_true rfl) (Nat.le_of_ble_eq_true rfl) ?_
  exact W.zret (v := 0) hx hb hr rfl (fun t ht hW => ⟨⟨0, (), rfl, rfl, ⟨by rw [ht]; exact hP9, va_K.moved hW.alike hK9, hD9⟩⟩, hS.F ht⟩) hS.2.2 dX9_takeSign_25
set_option maxHeartbeats 4000000 in
set_option maxRecDepth 100000 in
theorem c_isDigitAt (l : Launch) (dC : Nat → ClassId) (dI : Nat → Nat → Nat) (tp : Nat) (tb : Nat) (sz : Nat) : Met l yX9_isDigitAt (ws_u yX9_isDigitAt cX9_isDigitAt 2 (some .boolean)) ({ frames := 0, cells := 0, slots := 0, locals := 0 }) (va_Pc [.ref tp, .int 0] (cPre (dC, dI) [] [(tp, .inr (9, [.ref tb, .int 0, .int 0, .int 1]))] sz)) (va_Qi (fun (r : Int32) (_ : Unit) => r = 0) (fun _ t => cPost (dC, dI) [] [(tp, .inr (9, [.ref tb, .int 0, .int 0, .int 1]))] (va_A [(tp, .inr (9, [.ref tb, .int 0, .int 0, .int 1]))] sz) t) (va_A [(tp, .inr (9, [.ref tb, .int 0, .int 0, .int 1]))] sz)) 0 0 (va_A [(tp, .inr (9, [.ref tb, .int 0, .int 0, .int 1]))] sz) := by
  refine Met.ofW (cc := cX9_isDigitAt) (maxL := 2) (ret := (some .boolean)) (by decide) rfl ?_
  intro p e s m args below meth c s₁ B hml hv
  obtain ⟨rfl, hsz, hP, hK, hD0, hE⟩ := hv
  have hx := B.exec
  have hb := B.bytes
  have hr := B.returns
  have hts0 := atoms_spec (ws := ws_u yX9_isDigitAt cX9_isDigitAt 2 (some .boolean)) B.pre
  have hts : ∀ w ∈ gT, w.before _ s = true := fun w h => hts0 w (List.mem_cons_of_mem _ h)
  have hown : s.vm.findClass RX9 = some m.cls := findClass_of_methodNamed B.named
  have hlocks := B.notSynchronized
  subst hsz
  have hD := hD0.self (sz := s.heap.size)
  generalize hAe : va_A [(tp, .inr (9, [.ref tb, .int 0, .int 0, .int 1]))] s.heap.size = A at hD ⊢
  have hA : ∀ q : Nat, s.heap.size ≤ q → A q := fun q h => by rw [← hAe]; exact Or.inr h
  have hS : va_S A s.heap s.heap [] := va_S.rf
  have hl := lv_entry ([.ref tp, .int 0]) (n := 2) (Nat.le_of_ble_eq_true rfl)
  rw [lg_entry_eq]
  generalize (lg_sl ([.ref tp, .int 0]) ++ List.replicate (2 - (lg_sl ([.ref tp, .int 0])).length) Slot.unset).toArray = ls at hl ⊢
  have hl : lv_has ls 2 [(0, .ref tp), (1, .int 0)] := hl
  have hP : va_P (dC, dI) vwCl [(tp, .inr (9, [.ref tb, .int 0, .int 0, .int 1]))] s.heap := hP
  try clear hAe
  refine lv_aload_n hx hb dX9_isDigitAt_0 rfl (lv_at hl 0 rfl) ?_
  refine va_get (D := (dC, dI)) (ci := 9) (v := .int 1) (C := RX9) (T := TX9) (N := 4) hx hb hts iX9 hown hK hP 0 rfl rfl 3 (by decide) (hts _ tw_44) (fun _ h9 => h9) rfl dX9_isDigitAt_1 ?_
  refine lv_if_ne (tgt := 41) hx hb dX9_isDigitAt_4 (by decide) (fun c_1 => ?_) (fun c_1 => absurd c_1 (by decide))
  refine lv_iconst (v := 0) hx hb dX9_isDigitAt_41 (by decide) ?_
  have hP9 := hP.sub (ws' := [(tp, .inr (9, [.ref tb, .int 0, .int 0, .int 1]))]) [0] rfl
  have hD9 := hD.sub (ws' := [(tp, .inr (9, [.ref tb, .int 0, .int 0, .int 1]))]) [0] (by decide) rfl
  have hK9 := hK.sub (tys' := []) [] rfl
  refine W.widen (k := 0) (n := 0) (Nat.le_of_ble_eq_true rfl) (Nat.le_of_ble_eq_true rfl) ?_
  exact W.zret (v := 0) hx hb hr rfl (fun t ht hW => ⟨⟨0, (), rfl, rfl, ⟨by rw [ht]; exact hP9, va_K.moved hW.alike hK9, hD9⟩⟩, hS.F ht⟩) hS.2.2 dX9_isDigitAt_42
set_option maxHeartbeats 4000000 in
set_option maxRecDepth 100000 in
theorem c_atEnd (l : Launch) (dC : Nat → ClassId) (dI : Nat → Nat → Nat) (tp : Nat) (tb : Nat) (sz : Nat) : Met l yX9_atEnd (ws_u yX9_atEnd cX9_atEnd 1 (some .boolean)) ({ frames := 0, cells := 0, slots := 0, locals := 0 }) (va_Pc [.ref tp] (cPre (dC, dI) [] [(tp, .inr (9, [.ref tb, .int 0, .int 0, .int 1]))] sz)) (va_Qi (fun (r : Int32) (_ : Unit) => r = 1) (fun _ t => cPost (dC, dI) [] [(tp, .inr (9, [.ref tb, .int 0, .int 0, .int 1]))] (va_A [(tp, .inr (9, [.ref tb, .int 0, .int 0, .int 1]))] sz) t) (va_A [(tp, .inr (9, [.ref tb, .int 0, .int 0, .int 1]))] sz)) 0 0 (va_A [(tp, .inr (9, [.ref tb, .int 0, .int 0, .int 1]))] sz) := by
  refine Met.ofW (cc := cX9_atEnd) (maxL := 1) (ret := (some .boolean)) (by decide) rfl ?_
  intro p e s m args below meth c s₁ B hml hv
  obtain ⟨rfl, hsz, hP, hK, hD0, hE⟩ := hv
  have hx := B.exec
  have hb := B.bytes
  have hr := B.returns
  have hts0 := atoms_spec (ws := ws_u yX9_atEnd cX9_atEnd 1 (some .boolean)) B.pre
  have hts : ∀ w ∈ gT, w.before _ s = true := fun w h => hts0 w (List.mem_cons_of_mem _ h)
  have hown : s.vm.findClass RX9 = some m.cls := findClass_of_methodNamed B.named
  have hlocks := B.notSynchronized
  subst hsz
  have hD := hD0.self (sz := s.heap.size)
  generalize hAe : va_A [(tp, .inr (9, [.ref tb, .int 0, .int 0, .int 1]))] s.heap.size = A at hD ⊢
  have hA : ∀ q : Nat, s.heap.size ≤ q → A q := fun q h => by rw [← hAe]; exact Or.inr h
  have hS : va_S A s.heap s.heap [] := va_S.rf
  have hl := lv_entry ([.ref tp]) (n := 1) (Nat.le_of_ble_eq_true rfl)
  rw [lg_entry_eq]
  generalize (lg_sl ([.ref tp]) ++ List.replicate (1 - (lg_sl ([.ref tp])).length) Slot.unset).toArray = ls at hl ⊢
  have hl : lv_has ls 1 [(0, .ref tp)] := hl
  have hP : va_P (dC, dI) vwCl [(tp, .inr (9, [.ref tb, .int 0, .int 0, .int 1]))] s.heap := hP
  try clear hAe
  refine lv_aload_n hx hb dX9_atEnd_0 rfl (lv_at hl 0 rfl) ?_
  refine va_get (D := (dC, dI)) (ci := 9) (v := .int 0) (C := RX9) (T := TX9) (N := 4) hx hb hts iX9 hown hK hP 0 rfl rfl 2 (by decide) (hts _ tw_41) (fun _ h9 => h9) rfl dX9_atEnd_1 ?_
  refine lv_aload_n hx hb dX9_atEnd_4 rfl (lv_at hl 0 rfl) ?_
  refine va_get (D := (dC, dI)) (ci := 9) (v := .int 0) (C := RX9) (T := TX9) (N := 4) hx hb hts iX9 hown hK hP 0 rfl rfl 1 (by decide) (hts _ tw_37) (fun _ h9 => h9) rfl dX9_atEnd_5 ?_
  refine lv_icmp_lt (tgt := 15) hx hb dX9_atEnd_8 (by decide) (fun c_1 => absurd c_1 (by decide)) (fun c_1 => ?_)
  refine lv_iconst (v := 1) hx hb dX9_atEnd_11 (by decide) ?_
  refine lv_goto (tgt := 16) hx hb dX9_atEnd_12 (by decide) ?_
  have hP9 := hP.sub (ws' := [(tp, .inr (9, [.ref tb, .int 0, .int 0, .int 1]))]) [0] rfl
  have hD9 := hD.sub (ws' := [(tp, .inr (9, [.ref tb, .int 0, .int 0, .int 1]))]) [0] (by decide) rfl
  have hK9 := hK.sub (tys' := []) [] rfl
  refine W.widen (k := 0) (n := 0) (Nat.le_of_ble_eq_true rfl) (Nat.le_of_ble_eq_true rfl) ?_
  exact W.zret (v := 1) hx hb hr rfl (fun t ht hW => ⟨⟨1, (), rfl, rfl, ⟨by rw [ht]; exact hP9, va_K.moved hW.alike hK9, hD9⟩⟩, hS.F ht⟩) hS.2.2 dX9_atEnd_16
set_option maxHeartbeats 4000000 in
set_option maxRecDepth 100000 in
theorem c_countPart (l : Launch) (dC : Nat → ClassId) (dI : Nat → Nat → Nat) (rr : Nat) (tp : Nat) (ru : Nat) (sz : Nat) : Met l yX7_countPart (ws_u yX7_countPart cX7_countPart 2 none) ({ frames := 0, cells := 0, slots := 0, locals := 0 }) (va_Pc [.ref rr, .int 0] (cPre (dC, dI) [] [(rr, .inr (7, [.ref tp, .ref ru, .int 0]))] sz)) (va_Qv (fun _ : Unit => True) (fun _ t => cPost (dC, dI) [] [(rr, .inr (7, [.ref tp, .ref ru, .int 1]))] (va_A [(rr, .inr (7, [.ref tp, .ref ru, .int 0]))] sz) t) (va_A [(rr, .inr (7, [.ref tp, .ref ru, .int 0]))] sz)) 0 0 (va_A [(rr, .inr (7, [.ref tp, .ref ru, .int 0]))] sz) := by
  refine Met.ofW (cc := cX7_countPart) (maxL := 2) (ret := none) (by decide) rfl ?_
  intro p e s m args below meth c s₁ B hml hv
  obtain ⟨rfl, hsz, hP, hK, hD0, hE⟩ := hv
  have hx := B.exec
  have hb := B.bytes
  have hr := B.returns
  have hts0 := atoms_spec (ws := ws_u yX7_countPart cX7_countPart 2 none) B.pre
  have hts : ∀ w ∈ gT, w.before _ s = true := fun w h => hts0 w (List.mem_cons_of_mem _ h)
  have hown : s.vm.findClass RX7 = some m.cls := findClass_of_methodNamed B.named
  have hlocks := B.notSynchronized
  subst hsz
  have hD := hD0.self (sz := s.heap.size)
  generalize hAe : va_A [(rr, .inr (7, [.ref tp, .ref ru, .int 0]))] s.heap.size = A at hD ⊢
  have hA : ∀ q : Nat, s.heap.size ≤ q → A q := fun q h => by rw [← hAe]; exact Or.inr h
  have hS : va_S A s.heap s.heap [] := va_S.rf
  have hl := lv_entry ([.ref rr, .int 0]) (n := 2) (Nat.le_of_ble_eq_true rfl)
  rw [lg_entry_eq]
  generalize (lg_sl ([.ref rr, .int 0]) ++ List.replicate (2 - (lg_sl ([.ref rr, .int 0])).length) Slot.unset).toArray = ls at hl ⊢
  have hl : lv_has ls 2 [(0, .ref rr), (1, .int 0)] := hl
  have hP : va_P (dC, dI) vwCl [(rr, .inr (7, [.ref tp, .ref ru, .int 0]))] s.heap := hP
  try clear hAe
  refine lv_aload_n hx hb dX7_countPart_0 rfl (lv_at hl 0 rfl) ?_
  refine lv_dup hx hb dX7_countPart_1 rfl ?_
  refine va_get (D := (dC, dI)) (ci := 7) (v := .int 0) (C := RX7) (T := TX7) (N := 3) hx hb hts iX7 hown hK hP 0 rfl rfl 2 (by decide) (hts _ tw_168) (fun _ h9 => h9) rfl dX7_countPart_2 ?_
  refine lv_iconst (v := 1) hx hb dX7_countPart_5 (by decide) ?_
  refine lv_iadd hx hb dX7_countPart_6 ?_
  refine lv_topi (fun x_1 ex_1 => ?_)
  obtain rfl : x_1 = 1 := ex_1.trans (by decide)
  refine va_put (D := (dC, dI)) (ci := 7) (v := .int 1) (C := RX7) (T := TX7) (N := 3) hx hb hts iX7 tyX7 tyX7_ok nmX7 hown hK hP hD hS 0 rfl rfl 2 (by decide) (hts _ tw_168) (fun _ h9 => h9) rfl (tyX7_ok 2 (by decide)) rfl rfl (Nat.le_of_ble_eq_true rfl) dX7_countPart_7 (fun H locs hP hD hS => ?_)
  have hP : va_P (dC, dI) vwCl [(rr, .inr (7, [.ref tp, .ref ru, .int 1]))] H := hP
  have hD : va_D A [(rr, .inr (7, [.ref tp, .ref ru, .int 1]))] := hD
  refine lv_aload_n hx hb dX7_countPart_10 rfl (lv_at hl 0 rfl) ?_
  refine va_get (D := (dC, dI)) (ci := 7) (v := .int 1) (C := RX7) (T := TX7) (N := 3) hx hb hts iX7 hown hK hP 0 rfl rfl 2 (by decide) (hts _ tw_168) (fun _ h9 => h9) rfl dX7_countPart_11 ?_
  refine lv_bipush (v := 60) hx hb dX7_countPart_14 (by decide) ?_
  refine lv_icmp_le (tgt := 28) hx hb dX7_countPart_16 (by decide) (fun c_2 => ?_) (fun c_2 => absurd (by decide) c_2)
  have hP9 := hP.sub (ws' := [(rr, .inr (7, [.ref tp, .ref ru, .int 1]))]) [0] rfl
  have hD9 := hD.sub (ws' := [(rr, .inr (7, [.ref tp, .ref ru, .int 1]))]) [0] (by decide) rfl
  have hK9 := hK.sub (tys' := []) [] rfl
  refine W.widen (k := 0) (n := 0) (Nat.le_of_ble_eq_true rfl) (Nat.le_of_ble_eq_true rfl) ?_
  exact W.vret hx hb hr (fun t ht hW => ⟨⟨(), rfl, trivial, ⟨by rw [ht]; exact hP9, va_K.moved hW.alike hK9, hD9⟩⟩, hS.F ht⟩) hS.2.2 dX7_countPart_28
set_option maxHeartbeats 4000000 in
set_option maxRecDepth 100000 in
theorem c_takeStep (l : Launch) (dC : Nat → ClassId) (dI : Nat → Nat → Nat) (rr : Nat) (tp : Nat) (tb : Nat) (ru : Nat) (sz : Nat) : Met l yX7_takeStep (ws_u yX7_takeStep cX7_takeStep 1 (some .int)) ({ frames := 2, cells := 0, slots := 0, locals := 44 }) (va_Pc [.ref rr] (cPre (dC, dI) [] [(rr, .inr (7, [.ref tp, .ref ru, .int 1])), (tp, .inr (9, [.ref tb, .int 0, .int 0, .int 1]))] sz)) (va_Qi (fun (r : Int32) (_ : Unit) => r = 0) (fun _ t => cPost (dC, dI) [] [(rr, .inr (7, [.ref tp, .ref ru, .int 1])), (tp, .inr (9, [.ref tb, .int 0, .int 0, .int 1]))] (va_A [(rr, .inr (7, [.ref tp, .ref ru, .int 1])), (tp, .inr (9, [.ref tb, .int 0, .int 0, .int 1]))] sz) t) (va_A [(rr, .inr (7, [.ref tp, .ref ru, .int 1])), (tp, .inr (9, [.ref tb, .int 0, .int 0, .int 1]))] sz)) 0 0 (va_A [(rr, .inr (7, [.ref tp, .ref ru, .int 1])), (tp, .inr (9, [.ref tb, .int 0, .int 0, .int 1]))] sz) := by
  refine Met.ofW (cc := cX7_takeStep) (maxL := 1) (ret := (some .int)) (by decide) rfl ?_
  intro p e s m args below meth c s₁ B hml hv
  obtain ⟨rfl, hsz, hP, hK, hD0, hE⟩ := hv
  have hx := B.exec
  have hb := B.bytes
  have hr := B.returns
  have hts0 := atoms_spec (ws := ws_u yX7_takeStep cX7_takeStep 1 (some .int)) B.pre
  have hts : ∀ w ∈ gT, w.before _ s = true := fun w h => hts0 w (List.mem_cons_of_mem _ h)
  have hown : s.vm.findClass RX7 = some m.cls := findClass_of_methodNamed B.named
  have hlocks := B.notSynchronized
  subst hsz
  have hD := hD0.self (sz := s.heap.size)
  generalize hAe : va_A [(rr, .inr (7, [.ref tp, .ref ru, .int 1])), (tp, .inr (9, [.ref tb, .int 0, .int 0, .int 1]))] s.heap.size = A at hD ⊢
  have hA : ∀ q : Nat, s.heap.size ≤ q → A q := fun q h => by rw [← hAe]; exact Or.inr h
  have hS : va_S A s.heap s.heap [] := va_S.rf
  have hl := lv_entry ([.ref rr]) (n := 1) (Nat.le_of_ble_eq_true rfl)
  rw [lg_entry_eq]
  generalize (lg_sl ([.ref rr]) ++ List.replicate (1 - (lg_sl ([.ref rr])).length) Slot.unset).toArray = ls at hl ⊢
  have hl : lv_has ls 1 [(0, .ref rr)] := hl
  have hP : va_P (dC, dI) vwCl [(rr, .inr (7, [.ref tp, .ref ru, .int 1])), (tp, .inr (9, [.ref tb, .int 0, .int 0, .int 1]))] s.heap := hP
  try clear hAe
  refine lv_aload_n hx hb dX7_takeStep_0 rfl (lv_at hl 0 rfl) ?_
  refine va_get (D := (dC, dI)) (ci := 7) (v := .ref tp) (C := RX7) (T := TX7) (N := 3) hx hb hts iX7 hown hK hP 0 rfl rfl 0 (by decide) (hts _ tw_166) (fun _ h9 => h9) rfl dX7_takeStep_1 ?_
  refine lv_bipush (v := 43) hx hb dX7_takeStep_4 (by decide) ?_
  have hPc := hP.sub (ws' := [(tp, .inr (9, [.ref tb, .int 0, .int 0, .int 1]))]) [1] rfl
  have hDc := hD.sub (ws' := [(tp, .inr (9, [.ref tb, .int 0, .int 0, .int 1]))]) [1] (by decide) rfl
  have hKc := hK.sub (tys' := []) [] rfl
  have hFc := va_free (wc := [(tp, .inr (9, [.ref tb, .int 0, .int 0, .int 1]))]) hD hS hA [1] rfl
  refine va_calli (va_runV (As := [.int 43]) (rest := []) ⟨hx, hb, hml, hown, hts⟩ (c_takeSign l dC dI tp tb 43  s.heap.size) (cwV 1 hts (gUV tw_673 tw_603 tw_604 tw_2 tw_605) rfl rfl rfl (by decide +kernel) ⟨(Nat.le_of_ble_eq_true rfl), (Nat.le_of_ble_eq_true rfl)⟩) ⟨cPre.blind, va_recv hKc hPc (ci := 9) (q0 := 0) rfl rfl, cPre.use hPc hKc hDc hE⟩ rfl rfl hl.1 rfl (lv_room (Nat.le_of_ble_eq_true rfl)) dX7_takeStep_6 ⟨(Nat.le_of_ble_eq_true rfl), (Nat.le_of_ble_eq_true rfl)⟩) hS (fun q _ h => hFc q h) hFc (fun r_1 u t H1 locs ht hvm hw hB hz1 hk1 hS => ?_)
  obtain ⟨hP1, hK1, hD1⟩ := hB
  rw [ht] at hP1
  obtain ⟨hP, hD⟩ := va_join (wr := [(rr, .inr (7, [.ref tp, .ref ru, .int 1]))]) (w1 := [(tp, .inr (9, [.ref tb, .int 0, .int 0, .int 1]))]) hP hD [1] [0] rfl rfl (by decide) (by decide) hk1 hFc hP1 hD1
  generalize H1 = H at hP hS ⊢
  have hP : va_P (dC, dI) vwCl [(rr, .inr (7, [.ref tp, .ref ru, .int 1])), (tp, .inr (9, [.ref tb, .int 0, .int 0, .int 1]))] H := hP
  have hD : va_D A [(rr, .inr (7, [.ref tp, .ref ru, .int 1])), (tp, .inr (9, [.ref tb, .int 0, .int 0, .int 1]))] := hD
  obtain rfl : r_1 = 0 := hw
  refine lv_if_eq (tgt := 15) hx hb dX7_takeStep_9 (by decide) (fun c_2 => ?_) (fun c_2 => absurd (by decide) c_2)
  refine lv_aload_n hx hb dX7_takeStep_15 rfl (lv_at hl 0 rfl) ?_
  refine va_get (D := (dC, dI)) (ci := 7) (v := .ref tp) (C := RX7) (T := TX7) (N := 3) hx hb hts iX7 hown hK hP 0 rfl rfl 0 (by decide) (hts _ tw_166) (fun _ h9 => h9) rfl dX7_takeStep_16 ?_
  refine lv_bipush (v := 45) hx hb dX7_takeStep_19 (by decide) ?_
  have hPc := hP.sub (ws' := [(tp, .inr (9, [.ref tb, .int 0, .int 0, .int 1]))]) [1] rfl
  have hDc := hD.sub (ws' := [(tp, .inr (9, [.ref tb, .int 0, .int 0, .int 1]))]) [1] (by decide) rfl
  have hKc := hK.sub (tys' := []) [] rfl
  have hFc := va_free (wc := [(tp, .inr (9, [.ref tb, .int 0, .int 0, .int 1]))]) hD hS hA [1] rfl
  refine va_calli (va_runV (As := [.int 45]) (rest := []) ⟨hx, hb, hml, hown, hts⟩ (c_takeSign l dC dI tp tb 45  H.size) (cwV 1 hts (gUV tw_673 tw_603 tw_604 tw_2 tw_605) rfl rfl rfl (by decide +kernel) ⟨(Nat.le_of_ble_eq_true rfl), (Nat.le_of_ble_eq_true rfl)⟩) ⟨cPre.blind, va_recv hKc hPc (ci := 9) (q0 := 0) rfl rfl, cPre.use hPc hKc hDc hE⟩ rfl rfl hl.1 rfl (lv_room (Nat.le_of_ble_eq_true rfl)) dX7_takeStep_21 ⟨(Nat.le_of_ble_eq_true rfl), (Nat.le_of_ble_eq_true rfl)⟩) hS (fun q _ h => hFc q h) hFc (fun r_3 u t H1 locs ht hvm hw hB hz1 hk1 hS => ?_)
  obtain ⟨hP1, hK1, hD1⟩ := hB
  rw [ht] at hP1
  obtain ⟨hP, hD⟩ := va_join (wr := [(rr, .inr (7, [.ref tp, .ref ru, .int 1]))]) (w1 := [(tp, .inr (9, [.ref tb, .int 0, .int 0, .int 1]))]) hP hD [1] [0] rfl rfl (by decide) (by decide) hk1 hFc hP1 hD1
  generalize H1 = H at hP hS ⊢
  have hP : va_P (dC, dI) vwCl [(rr, .inr (7, [.ref tp, .ref ru, .int 1])), (tp, .inr (9, [.ref tb, .int 0, .int 0, .int 1]))] H := hP
  have hD : va_D A [(rr, .inr (7, [.ref tp, .ref ru, .int 1])), (tp, .inr (9, [.ref tb, .int 0, .int 0, .int 1]))] := hD
  obtain rfl : r_3 = 0 := hw
  refine lv_if_eq (tgt := 30) hx hb dX7_takeStep_24 (by decide) (fun c_4 => ?_) (fun c_4 => absurd (by decide) c_4)
  refine lv_aload_n hx hb dX7_takeStep_30 rfl (lv_at hl 0 rfl) ?_
  refine va_get (D := (dC, dI)) (ci := 7) (v := .ref tp) (C := RX7) (T := TX7) (N := 3) hx hb hts iX7 hown hK hP 0 rfl rfl 0 (by decide) (hts _ tw_166) (fun _ h9 => h9) rfl dX7_takeStep_31 ?_
  refine lv_bipush (v := 42) hx hb dX7_takeStep_34 (by decide) ?_
  have hPc := hP.sub (ws' := [(tp, .inr (9, [.ref tb, .int 0, .int 0, .int 1]))]) [1] rfl
  have hDc := hD.sub (ws' := [(tp, .inr (9, [.ref tb, .int 0, .int 0, .int 1]))]) [1] (by decide) rfl
  have hKc := hK.sub (tys' := []) [] rfl
  have hFc := va_free (wc := [(tp, .inr (9, [.ref tb, .int 0, .int 0, .int 1]))]) hD hS hA [1] rfl
  refine va_calli (va_runV (As := [.int 42]) (rest := []) ⟨hx, hb, hml, hown, hts⟩ (c_takeSign l dC dI tp tb 42  H.size) (cwV 1 hts (gUV tw_673 tw_603 tw_604 tw_2 tw_605) rfl rfl rfl (by decide +kernel) ⟨(Nat.le_of_ble_eq_true rfl), (Nat.le_of_ble_eq_true rfl)⟩) ⟨cPre.blind, va_recv hKc hPc (ci := 9) (q0 := 0) rfl rfl, cPre.use hPc hKc hDc hE⟩ rfl rfl hl.1 rfl (lv_room (Nat.le_of_ble_eq_true rfl)) dX7_takeStep_36 ⟨(Nat.le_of_ble_eq_true rfl), (Nat.le_of_ble_eq_true rfl)⟩) hS (fun q _ h => hFc q h) hFc (fun r_5 u t H1 locs ht hvm hw hB hz1 hk1 hS => ?_)
  obtain ⟨hP1, hK1, hD1⟩ := hB
  rw [ht] at hP1
  obtain ⟨hP, hD⟩ := va_join (wr := [(rr, .inr (7, [.ref tp, .ref ru, .int 1]))]) (w1 := [(tp, .inr (9, [.ref tb, .int 0, .int 0, .int 1]))]) hP hD [1] [0] rfl rfl (by decide) (by decide) hk1 hFc hP1 hD1
  generalize H1 = H at hP hS ⊢
  have hP : va_P (dC, dI) vwCl [(rr, .inr (7, [.ref tp, .ref ru, .int 1])), (tp, .inr (9, [.ref tb, .int 0, .int 0, .int 1]))] H := hP
  have hD : va_D A [(rr, .inr (7, [.ref tp, .ref ru, .int 1])), (tp, .inr (9, [.ref tb, .int 0, .int 0, .int 1]))] := hD
  obtain rfl : r_5 = 0 := hw
  refine lv_if_eq (tgt := 45) hx hb dX7_takeStep_39 (by decide) (fun c_6 => ?_) (fun c_6 => absurd (by decide) c_6)
  refine lv_aload_n hx hb dX7_takeStep_45 rfl (lv_at hl 0 rfl) ?_
  refine va_get (D := (dC, dI)) (ci := 7) (v := .ref tp) (C := RX7) (T := TX7) (N := 3) hx hb hts iX7 hown hK hP 0 rfl rfl 0 (by decide) (hts _ tw_166) (fun _ h9 => h9) rfl dX7_takeStep_46 ?_
  refine lv_bipush (v := 47) hx hb dX7_takeStep_49 (by decide) ?_
  have hPc := hP.sub (ws' := [(tp, .inr (9, [.ref tb, .int 0, .int 0, .int 1]))]) [1] rfl
  have hDc := hD.sub (ws' := [(tp, .inr (9, [.ref tb, .int 0, .int 0, .int 1]))]) [1] (by decide) rfl
  have hKc := hK.sub (tys' := []) [] rfl
  have hFc := va_free (wc := [(tp, .inr (9, [.ref tb, .int 0, .int 0, .int 1]))]) hD hS hA [1] rfl
  refine va_calli (va_runV (As := [.int 47]) (rest := []) ⟨hx, hb, hml, hown, hts⟩ (c_takeSign l dC dI tp tb 47  H.size) (cwV 1 hts (gUV tw_673 tw_603 tw_604 tw_2 tw_605) rfl rfl rfl (by decide +kernel) ⟨(Nat.le_of_ble_eq_true rfl), (Nat.le_of_ble_eq_true rfl)⟩) ⟨cPre.blind, va_recv hKc hPc (ci := 9) (q0 := 0) rfl rfl, cPre.use hPc hKc hDc hE⟩ rfl rfl hl.1 rfl (lv_room (Nat.le_of_ble_eq_true rfl)) dX7_takeStep_51 ⟨(Nat.le_of_ble_eq_true rfl), (Nat.le_of_ble_eq_true rfl)⟩) hS (fun q _ h => hFc q h) hFc (fun r_7 u t H1 locs ht hvm hw hB hz1 hk1 hS => ?_)
  obtain ⟨hP1, hK1, hD1⟩ := hB
  rw [ht] at hP1
  obtain ⟨hP, hD⟩ := va_join (wr := [(rr, .inr (7, [.ref tp, .ref ru, .int 1]))]) (w1 := [(tp, .inr (9, [.ref tb, .int 0, .int 0, .int 1]))]) hP hD [1] [0] rfl rfl (by decide) (by decide) hk1 hFc hP1 hD1
  generalize H1 = H at hP hS ⊢
  have hP : va_P (dC, dI) vwCl [(rr, .inr (7, [.ref tp, .ref ru, .int 1])), (tp, .inr (9, [.ref tb, .int 0, .int 0, .int 1]))] H := hP
  have hD : va_D A [(rr, .inr (7, [.ref tp, .ref ru, .int 1])), (tp, .inr (9, [.ref tb, .int 0, .int 0, .int 1]))] := hD
  obtain rfl : r_7 = 0 := hw
  refine lv_if_eq (tgt := 60) hx hb dX7_takeStep_54 (by decide) (fun c_8 => ?_) (fun c_8 => absurd (by decide) c_8)
  refine lv_aload_n hx hb dX7_takeStep_60 rfl (lv_at hl 0 rfl) ?_
  refine va_get (D := (dC, dI)) (ci := 7) (v := .ref tp) (C := RX7) (T := TX7) (N := 3) hx hb hts iX7 hown hK hP 0 rfl rfl 0 (by decide) (hts _ tw_166) (fun _ h9 => h9) rfl dX7_takeStep_61 ?_
  refine lv_bipush (v := 37) hx hb dX7_takeStep_64 (by decide) ?_
  have hPc := hP.sub (ws' := [(tp, .inr (9, [.ref tb, .int 0, .int 0, .int 1]))]) [1] rfl
  have hDc := hD.sub (ws' := [(tp, .inr (9, [.ref tb, .int 0, .int 0, .int 1]))]) [1] (by decide) rfl
  have hKc := hK.sub (tys' := []) [] rfl
  have hFc := va_free (wc := [(tp, .inr (9, [.ref tb, .int 0, .int 0, .int 1]))]) hD hS hA [1] rfl
  refine va_calli (va_runV (As := [.int 37]) (rest := []) ⟨hx, hb, hml, hown, hts⟩ (c_takeSign l dC dI tp tb 37  H.size) (cwV 1 hts (gUV tw_673 tw_603 tw_604 tw_2 tw_605) rfl rfl rfl (by decide +kernel) ⟨(Nat.le_of_ble_eq_true rfl), (Nat.le_of_ble_eq_true rfl)⟩) ⟨cPre.blind, va_recv hKc hPc (ci := 9) (q0 := 0) rfl rfl, cPre.use hPc hKc hDc hE⟩ rfl rfl hl.1 rfl (lv_room (Nat.le_of_ble_eq_true rfl)) dX7_takeStep_66 ⟨(Nat.le_of_ble_eq_true rfl), (Nat.le_of_ble_eq_true rfl)⟩) hS (fun q _ h => hFc q h) hFc (fun r_9 u t H1 locs ht hvm hw hB hz1 hk1 hS => ?_)
  obtain ⟨hP1, hK1, hD1⟩ := hB
  rw [ht] at hP1
  obtain ⟨hP, hD⟩ := va_join (wr := [(rr, .inr (7, [.ref tp, .ref ru, .int 1]))]) (w1 := [(tp, .inr (9, [.ref tb, .int 0, .int 0, .int 1]))]) hP hD [1] [0] rfl rfl (by decide) (by decide) hk1 hFc hP1 hD1
  generalize H1 = H at hP hS ⊢
  have hP : va_P (dC, dI) vwCl [(rr, .inr (7, [.ref tp, .ref ru, .int 1])), (tp, .inr (9, [.ref tb, .int 0, .int 0, .int 1]))] H := hP
  have hD : va_D A [(rr, .inr (7, [.ref tp, .ref ru, .int 1])), (tp, .inr (9, [.ref tb, .int 0, .int 0, .int 1]))] := hD
  obtain rfl : r_9 = 0 := hw
  refine lv_if_eq (tgt := 77) hx hb dX7_takeStep_69 (by decide) (fun c_10 => ?_) (fun c_10 => absurd (by decide) c_10)
  refine lv_iconst (v := 0) hx hb dX7_takeStep_77 (by decide) ?_
  have hP9 := hP.sub (ws' := [(rr, .inr (7, [.ref tp, .ref ru, .int 1])), (tp, .inr (9, [.ref tb, .int 0, .int 0, .int 1]))]) [0, 1] rfl
  have hD9 := hD.sub (ws' := [(rr, .inr (7, [.ref tp, .ref ru, .int 1])), (tp, .inr (9, [.ref tb, .int 0, .int 0, .int 1]))]) [0, 1] (by decide) rfl
  have hK9 := hK.sub (tys' := []) [] rfl
  refine W.widen (k := 0) (n := 0) (Nat.le_of_ble_eq_true rfl) (Nat.le_of_ble_eq_true rfl) ?_
  exact W.iret (v := 0) hx hb hr (fun t ht hW => ⟨⟨0, (), rfl, rfl, ⟨by rw [ht]; exact hP9, va_K.moved hW.alike hK9, hD9⟩⟩, hS.F ht⟩) hS.2.2 dX7_takeStep_78
set_option maxHeartbeats 4000000 in
set_option maxRecDepth 100000 in
theorem c_readValue (l : Launch) (dC : Nat → ClassId) (dI : Nat → Nat → Nat) (aK aV : Nat → Nat) (rr : Nat) (tp : Nat) (tb : Nat) (ru : Nat) (rs0 : Nat) (rs1 : Nat) (rs2 : Nat) (rs3 : Nat) (rs4 : Nat) (rsk0 : ClassId) (f0 : Nat → Int32) (sz : Nat) : Met l yX7_readValue (ws_u yX7_readValue cX7_readValue 3 none) ({ frames := 3, cells := 0, slots := 0, locals := 65 }) (va_Pc [.ref rr] (cPreS (dC, dI) aK aV [(rsk0, .int)] [(rr, .inr (7, [.ref tp, .ref ru, .int 0])), (tp, .inr (9, [.ref tb, .int 0, .int 0, .int 1])), (ru, .inr (6, [.ref rs0, .int 0, .ref rs1, .ref rs2, .ref rs3, .int 0, .ref rs4])), (rs0, .inl (rsk0, 400, .inl f0))] sz)) (va_Qv (fun _ : Unit => True) (fun _ t => ∃ (g0 : Nat → Int32), cPost (dC, dI) [(rsk0, .int)] [(rr, .inr (7, [.ref tp, .ref ru, .int 1])), (tp, .inr (9, [.ref tb, .int 0, .int 0, .int 1])), (ru, .inr (6, [.ref rs0, .int 1, .ref rs1, .ref rs2, .ref rs3, .int 0, .ref rs4])), (rs0, .inl (rsk0, 400, .inl g0))] (va_A [(rr, .inr (7, [.ref tp, .ref ru, .int 0])), (tp, .inr (9, [.ref tb, .int 0, .int 0, .int 1])), (ru, .inr (6, [.ref rs0, .int 0, .ref rs1, .ref rs2, .ref rs3, .int 0, .ref rs4])), (rs0, .inl (rsk0, 400, .inl f0))] sz) t) (va_A [(rr, .inr (7, [.ref tp, .ref ru, .int 0])), (tp, .inr (9, [.ref tb, .int 0, .int 0, .int 1])), (ru, .inr (6, [.ref rs0, .int 0, .ref rs1, .ref rs2, .ref rs3, .int 0, .ref rs4])), (rs0, .inl (rsk0, 400, .inl f0))] sz)) 0 0 (va_A [(rr, .inr (7, [.ref tp, .ref ru, .int 0])), (tp, .inr (9, [.ref tb, .int 0, .int 0, .int 1])), (ru, .inr (6, [.ref rs0, .int 0, .ref rs1, .ref rs2, .ref rs3, .int 0, .ref rs4])), (rs0, .inl (rsk0, 400, .inl f0))] sz) := by
  refine Met.ofW (cc := cX7_readValue) (maxL := 3) (ret := none) (by decide) rfl ?_
  intro p e s m args below meth c s₁ B hml hv
  obtain ⟨rfl, ⟨hsz, hP, hK, hD0, hE⟩, hStr, hR⟩ := hv
  have hx := B.exec
  have hb := B.bytes
  have hr := B.returns
  have hts0 := atoms_spec (ws := ws_u yX7_readValue cX7_readValue 3 none) B.pre
  have hts : ∀ w ∈ gT, w.before _ s = true := fun w h => hts0 w (List.mem_cons_of_mem _ h)
  have hown : s.vm.findClass RX7 = some m.cls := findClass_of_methodNamed B.named
  have hlocks := B.notSynchronized
  subst hsz
  have hD := hD0.self (sz := s.heap.size)
  generalize hAe : va_A [(rr, .inr (7, [.ref tp, .ref ru, .int 0])), (tp, .inr (9, [.ref tb, .int 0, .int 0, .int 1])), (ru, .inr (6, [.ref rs0, .int 0, .ref rs1, .ref rs2, .ref rs3, .int 0, .ref rs4])), (rs0, .inl (rsk0, 400, .inl f0))] s.heap.size = A at hD hStr ⊢
  have hA : ∀ q : Nat, s.heap.size ≤ q → A q := fun q h => by rw [← hAe]; exact Or.inr h
  have hS : va_S A s.heap s.heap [] := va_S.rf
  have hl := lv_entry ([.ref rr]) (n := 3) (Nat.le_of_ble_eq_true rfl)
  rw [lg_entry_eq]
  generalize (lg_sl ([.ref rr]) ++ List.replicate (3 - (lg_sl ([.ref rr])).length) Slot.unset).toArray = ls at hl ⊢
  have hl : lv_has ls 3 [(0, .ref rr)] := hl
  have hP : va_P (dC, dI) vwCl [(rr, .inr (7, [.ref tp, .ref ru, .int 0])), (tp, .inr (9, [.ref tb, .int 0, .int 0, .int 1])), (ru, .inr (6, [.ref rs0, .int 0, .ref rs1, .ref rs2, .ref rs3, .int 0, .ref rs4])), (rs0, .inl (rsk0, 400, .inl f0))] s.heap := hP
  try clear hAe
  refine lv_aload_n hx hb dX7_readValue_0 rfl (lv_at hl 0 rfl) ?_
  refine va_get (D := (dC, dI)) (ci := 7) (v := .ref tp) (C := RX7) (T := TX7) (N := 3) hx hb hts iX7 hown hK hP 0 rfl rfl 0 (by decide) (hts _ tw_166) (fun _ h9 => h9) rfl dX7_readValue_1 ?_
  refine va_get (D := (dC, dI)) (ci := 9) (v := .int 0) (C := RX9) (T := TX9) (N := 4) hx hb hts iX9 hown hK hP 1 rfl rfl 2 (by decide) (hts _ tw_39) (fun _ h9 => h9) rfl dX7_readValue_4 ?_
  refine lv_istore_n (lv' := [(1, .int 0), (0, .ref rr)]) hx hb dX7_readValue_7 rfl hl (by decide) rfl (fun ls hl => ?_)
  refine lv_aload_n hx hb dX7_readValue_8 rfl (lv_at hl 1 rfl) ?_
  refine va_get (D := (dC, dI)) (ci := 7) (v := .ref tp) (C := RX7) (T := TX7) (N := 3) hx hb hts iX7 hown hK hP 0 rfl rfl 0 (by decide) (hts _ tw_166) (fun _ h9 => h9) rfl dX7_readValue_9 ?_
  refine lv_iload_n hx hb dX7_readValue_12 rfl (lv_at hl 0 rfl) ?_
  have hPc := hP.sub (ws' := [(tp, .inr (9, [.ref tb, .int 0, .int 0, .int 1]))]) [1] rfl
  have hDc := hD.sub (ws' := [(tp, .inr (9, [.ref tb, .int 0, .int 0, .int 1]))]) [1] (by decide) rfl
  have hKc := hK.sub (tys' := []) [] rfl
  have hFc := va_free (wc := [(tp, .inr (9, [.ref tb, .int 0, .int 0, .int 1]))]) hD hS hA [1] rfl
  refine va_calli (va_runV (As := [.int 0]) (rest := []) ⟨hx, hb, hml, hown, hts⟩ (c_isDigitAt l dC dI tp tb  s.heap.size) (cwV 1 hts (gUV tw_657 tw_578 tw_579 tw_2 tw_580) rfl rfl rfl (by decide +kernel) ⟨(Nat.le_of_ble_eq_true rfl), (Nat.le_of_ble_eq_true rfl)⟩) ⟨cPre.blind, va_recv hKc hPc (ci := 9) (q0 := 0) rfl rfl, cPre.use hPc hKc hDc hE⟩ rfl rfl hl.1 rfl (lv_room (Nat.le_of_ble_eq_true rfl)) dX7_readValue_13 ⟨(Nat.le_of_ble_eq_true rfl), (Nat.le_of_ble_eq_true rfl)⟩) hS (fun q _ h => hFc q h) hFc (fun r_1 u t H1 locs ht hvm hw hB hz1 hk1 hS => ?_)
  obtain ⟨hP1, hK1, hD1⟩ := hB
  rw [ht] at hP1
  obtain ⟨hP, hD⟩ := va_join (wr := [(rr, .inr (7, [.ref tp, .ref ru, .int 0])), (ru, .inr (6, [.ref rs0, .int 0, .ref rs1, .ref rs2, .ref rs3, .int 0, .ref rs4])), (rs0, .inl (rsk0, 400, .inl f0))]) (w1 := [(tp, .inr (9, [.ref tb, .int 0, .int 0, .int 1]))]) hP hD [1] [0, 2, 3] rfl rfl (by decide) (by decide) hk1 hFc hP1 hD1
  generalize H1 = H at hP hS ⊢
  have hP : va_P (dC, dI) vwCl [(rr, .inr (7, [.ref tp, .ref ru, .int 0])), (ru, .inr (6, [.ref rs0, .int 0, .ref rs1, .ref rs2, .ref rs3, .int 0, .ref rs4])), (rs0, .inl (rsk0, 400, .inl f0)), (tp, .inr (9, [.ref tb, .int 0, .int 0, .int 1]))] H := hP
  have hD : va_D A [(rr, .inr (7, [.ref tp, .ref ru, .int 0])), (ru, .inr (6, [.ref rs0, .int 0, .ref rs1, .ref rs2, .ref rs3, .int 0, .ref rs4])), (rs0, .inl (rsk0, 400, .inl f0)), (tp, .inr (9, [.ref tb, .int 0, .int 0, .int 1]))] := hD
  obtain rfl : r_1 = 0 := hw
  refine lv_if_eq (tgt := 39) hx hb dX7_readValue_16 (by decide) (fun c_2 => ?_) (fun c_2 => absurd (by decide) c_2)
  refine lv_aload_n hx hb dX7_readValue_39 rfl (lv_at hl 1 rfl) ?_
  refine va_get (D := (dC, dI)) (ci := 7) (v := .ref tp) (C := RX7) (T := TX7) (N := 3) hx hb hts iX7 hown hK hP 0 rfl rfl 0 (by decide) (hts _ tw_166) (fun _ h9 => h9) rfl dX7_readValue_40 ?_
  refine va_ldcS hx hb hown hR.2.2.1 dX7_readValue_43 ?_
  have hPc := hP.sub (ws' := [(tp, .inr (9, [.ref tb, .int 0, .int 0, .int 1]))]) [3] rfl
  have hDc := hD.sub (ws' := [(tp, .inr (9, [.ref tb, .int 0, .int 0, .int 1]))]) [3] (by decide) rfl
  have hKc := hK.sub (tys' := []) [] rfl
  have hFc := va_free (wc := [(tp, .inr (9, [.ref tb, .int 0, .int 0, .int 1]))]) hD hS hA [3] rfl
  refine va_calli (va_runV (As := [.ref (aK 2)]) (rest := []) ⟨hx, hb, hml, hown, hts⟩ (c_takeWord_2 l dC dI aK aV tp tb  H.size) (cwV 1 hts (gUV tw_643 tw_506 tw_507 tw_2 tw_508) rfl rfl rfl (by decide +kernel) ⟨(Nat.le_of_ble_eq_true rfl), (Nat.le_of_ble_eq_true rfl)⟩) ⟨cPreS.blind, va_recv hKc hPc (ci := 9) (q0 := 0) rfl rfl, cPreS.use hPc hKc hDc hE hStr hR hS hFc⟩ rfl rfl hl.1 rfl (lv_room (Nat.le_of_ble_eq_true rfl)) dX7_readValue_45 ⟨(Nat.le_of_ble_eq_true rfl), (Nat.le_of_ble_eq_true rfl)⟩) hS (fun q _ h => hFc q h) hFc (fun r_3 u t H1 locs ht hvm hw hB hz1 hk1 hS => ?_)
  obtain ⟨hP1, hK1, hD1⟩ := hB
  rw [ht] at hP1
  obtain ⟨hP, hD⟩ := va_join (wr := [(rr, .inr (7, [.ref tp, .ref ru, .int 0])), (ru, .inr (6, [.ref rs0, .int 0, .ref rs1, .ref rs2, .ref rs3, .int 0, .ref rs4])), (rs0, .inl (rsk0, 400, .inl f0))]) (w1 := [(tp, .inr (9, [.ref tb, .int 0, .int 0, .int 1]))]) hP hD [3] [0, 1, 2] rfl rfl (by decide) (by decide) hk1 hFc hP1 hD1
  generalize H1 = H at hP hS ⊢
  have hP : va_P (dC, dI) vwCl [(rr, .inr (7, [.ref tp, .ref ru, .int 0])), (ru, .inr (6, [.ref rs0, .int 0, .ref rs1, .ref rs2, .ref rs3, .int 0, .ref rs4])), (rs0, .inl (rsk0, 400, .inl f0)), (tp, .inr (9, [.ref tb, .int 0, .int 0, .int 1]))] H := hP
  have hD : va_D A [(rr, .inr (7, [.ref tp, .ref ru, .int 0])), (ru, .inr (6, [.ref rs0, .int 0, .ref rs1, .ref rs2, .ref rs3, .int 0, .ref rs4])), (rs0, .inl (rsk0, 400, .inl f0)), (tp, .inr (9, [.ref tb, .int 0, .int 0, .int 1]))] := hD
  obtain rfl : r_3 = (-1) := hw
  refine lv_istore_n (lv' := [(2, .int (-1)), (1, .int 0), (0, .ref rr)]) hx hb dX7_readValue_48 rfl hl (by decide) rfl (fun ls hl => ?_)
  refine lv_iload_n hx hb dX7_readValue_49 rfl (lv_at hl 0 rfl) ?_
  refine lv_iconst (v := (-1)) hx hb dX7_readValue_50 (by decide) ?_
  refine lv_icmp_ne (tgt := 63) hx hb dX7_readValue_51 (by decide) (fun c_4 => absurd (by decide) c_4) (fun c_4 => ?_)
  refine lv_aload_n hx hb dX7_readValue_54 rfl (lv_at hl 2 rfl) ?_
  refine va_get (D := (dC, dI)) (ci := 7) (v := .ref tp) (C := RX7) (T := TX7) (N := 3) hx hb hts iX7 hown hK hP 0 rfl rfl 0 (by decide) (hts _ tw_166) (fun _ h9 => h9) rfl dX7_readValue_55 ?_
  refine lv_iload_n hx hb dX7_readValue_58 rfl (lv_at hl 1 rfl) ?_
  refine lv_iconst (v := 0) hx hb dX7_readValue_59 (by decide) ?_
  have hPc := hP.sub (ws' := [(tp, .inr (9, [.ref tb, .int 0, .int 0, .int 1]))]) [3] rfl
  have hDc := hD.sub (ws' := [(tp, .inr (9, [.ref tb, .int 0, .int 0, .int 1]))]) [3] (by decide) rfl
  have hKc := hK.sub (tys' := []) [] rfl
  have hFc := va_free (wc := [(tp, .inr (9, [.ref tb, .int 0, .int 0, .int 1]))]) hD hS hA [3] rfl
  refine va_callv (va_runV (As := [.int 0, .int 0]) (rest := []) ⟨hx, hb, hml, hown, hts⟩ (c_fail_1 l dC dI tp tb  H.size) (cwV 2 hts (gUV tw_644 tw_562 tw_563 tw_2 tw_564) rfl rfl rfl (by decide +kernel) ⟨(Nat.le_of_ble_eq_true rfl), (Nat.le_of_ble_eq_true rfl)⟩) ⟨cPre.blind, va_recv hKc hPc (ci := 9) (q0 := 0) rfl rfl, cPre.use hPc hKc hDc hE⟩ rfl rfl hl.1 rfl (lv_room (Nat.le_of_ble_eq_true rfl)) dX7_readValue_60 ⟨(Nat.le_of_ble_eq_true rfl), (Nat.le_of_ble_eq_true rfl)⟩) hS (fun q _ h => hFc q h) hFc (fun u t H1 locs ht hvm hw hB hz1 hk1 hS => ?_)
  obtain ⟨hP1, hK1, hD1⟩ := hB
  rw [ht] at hP1
  obtain ⟨hP, hD⟩ := va_join (wr := [(rr, .inr (7, [.ref tp, .ref ru, .int 0])), (ru, .inr (6, [.ref rs0, .int 0, .ref rs1, .ref rs2, .ref rs3, .int 0, .ref rs4])), (rs0, .inl (rsk0, 400, .inl f0))]) (w1 := [(tp, .inr (9, [.ref tb, .int 0, .int 0, .int 1]))]) hP hD [3] [0, 1, 2] rfl rfl (by decide) (by decide) hk1 hFc hP1 hD1
  generalize H1 = H at hP hS ⊢
  have hP : va_P (dC, dI) vwCl [(rr, .inr (7, [.ref tp, .ref ru, .int 0])), (ru, .inr (6, [.ref rs0, .int 0, .ref rs1, .ref rs2, .ref rs3, .int 0, .ref rs4])), (rs0, .inl (rsk0, 400, .inl f0)), (tp, .inr (9, [.ref tb, .int 0, .int 0, .int 1]))] H := hP
  have hD : va_D A [(rr, .inr (7, [.ref tp, .ref ru, .int 0])), (ru, .inr (6, [.ref rs0, .int 0, .ref rs1, .ref rs2, .ref rs3, .int 0, .ref rs4])), (rs0, .inl (rsk0, 400, .inl f0)), (tp, .inr (9, [.ref tb, .int 0, .int 0, .int 1]))] := hD
  refine lv_aload_n hx hb dX7_readValue_63 rfl (lv_at hl 2 rfl) ?_
  refine va_get (D := (dC, dI)) (ci := 7) (v := .ref ru) (C := RX7) (T := TX7) (N := 3) hx hb hts iX7 hown hK hP 0 rfl rfl 1 (by decide) (hts _ tw_167) (fun _ h9 => h9) rfl dX7_readValue_64 ?_
  refine lv_iconst (v := (-1)) hx hb dX7_readValue_67 (by decide) ?_
  refine lv_iload_n hx hb dX7_readValue_68 rfl (lv_at hl 0 rfl) ?_
  refine lv_isub hx hb dX7_readValue_69 ?_
  refine lv_topi (fun x_6 ex_6 => ?_)
  obtain rfl : x_6 = 0 := ex_6.trans (by decide)
  have hPc := hP.sub (ws' := [(ru, .inr (6, [.ref rs0, .int 0, .ref rs1, .ref rs2, .ref rs3, .int 0, .ref rs4])), (rs0, .inl (rsk0, 400, .inl f0))]) [1, 2] rfl
  have hDc := hD.sub (ws' := [(ru, .inr (6, [.ref rs0, .int 0, .ref rs1, .ref rs2, .ref rs3, .int 0, .ref rs4])), (rs0, .inl (rsk0, 400, .inl f0))]) [1, 2] (by decide) rfl
  have hKc := hK.sub (tys' := [(rsk0, .int)]) [0] rfl
  have hFc := va_free (wc := [(ru, .inr (6, [.ref rs0, .int 0, .ref rs1, .ref rs2, .ref rs3, .int 0, .ref rs4])), (rs0, .inl (rsk0, 400, .inl f0))]) hD hS hA [1, 2] rfl
  refine va_callv (va_runV (As := [.int 0]) (rest := []) ⟨hx, hb, hml, hown, hts⟩ (c_Rule_add l dC dI ru rs0 rs1 rs2 rs3 rs4 rsk0 f0 0  H.size) (cwV 1 hts (gUV tw_660 tw_661 tw_662 tw_6 tw_663) rfl rfl rfl (by decide +kernel) ⟨(Nat.le_of_ble_eq_true rfl), (Nat.le_of_ble_eq_true rfl)⟩) ⟨cPre.blind, va_recv hKc hPc (ci := 6) (q0 := 0) rfl rfl, cPre.use hPc hKc hDc hE⟩ rfl rfl hl.1 rfl (lv_room (Nat.le_of_ble_eq_true rfl)) dX7_readValue_70 ⟨(Nat.le_of_ble_eq_true rfl), (Nat.le_of_ble_eq_true rfl)⟩) hS (fun q _ h => hFc q h) hFc (fun u t H1 locs ht hvm hw hB hz1 hk1 hS => ?_)
  obtain ⟨g0_8, hP1, hK1, hD1⟩ := hB
  rw [ht] at hP1
  obtain ⟨hP, hD⟩ := va_join (wr := [(rr, .inr (7, [.ref tp, .ref ru, .int 0])), (tp, .inr (9, [.ref tb, .int 0, .int 0, .int 1]))]) (w1 := [(ru, .inr (6, [.ref rs0, .int 1, .ref rs1, .ref rs2, .ref rs3, .int 0, .ref rs4])), (rs0, .inl (rsk0, 400, .inl g0_8))]) hP hD [1, 2] [0, 3] rfl rfl (by decide) (by decide) hk1 hFc hP1 hD1
  generalize H1 = H at hP hS ⊢
  have hP : va_P (dC, dI) vwCl [(rr, .inr (7, [.ref tp, .ref ru, .int 0])), (tp, .inr (9, [.ref tb, .int 0, .int 0, .int 1])), (ru, .inr (6, [.ref rs0, .int 1, .ref rs1, .ref rs2, .ref rs3, .int 0, .ref rs4])), (rs0, .inl (rsk0, 400, .inl g0_8))] H := hP
  have hD : va_D A [(rr, .inr (7, [.ref tp, .ref ru, .int 0])), (tp, .inr (9, [.ref tb, .int 0, .int 0, .int 1])), (ru, .inr (6, [.ref rs0, .int 1, .ref rs1, .ref rs2, .ref rs3, .int 0, .ref rs4])), (rs0, .inl (rsk0, 400, .inl g0_8))] := hD
  refine lv_aload_n hx hb dX7_readValue_73 rfl (lv_at hl 2 rfl) ?_
  refine lv_iload_n hx hb dX7_readValue_74 rfl (lv_at hl 1 rfl) ?_
  have hPc := hP.sub (ws' := [(rr, .inr (7, [.ref tp, .ref ru, .int 0]))]) [0] rfl
  have hDc := hD.sub (ws' := [(rr, .inr (7, [.ref tp, .ref ru, .int 0]))]) [0] (by decide) rfl
  have hKc := hK.sub (tys' := []) [] rfl
  have hFc := va_free (wc := [(rr, .inr (7, [.ref tp, .ref ru, .int 0]))]) hD hS hA [0] rfl
  refine va_callv (va_runV (As := [.int 0]) (rest := []) ⟨hx, hb, hml, hown, hts⟩ (c_countPart l dC dI rr tp ru  H.size) (cwV 1 hts (gUV tw_665 tw_667 ts_0_10 tw_5 tw_668) rfl rfl rfl (by decide +kernel) ⟨(Nat.le_of_ble_eq_true rfl), (Nat.le_of_ble_eq_true rfl)⟩) ⟨cPre.blind, va_recv hKc hPc (ci := 7) (q0 := 0) rfl rfl, cPre.use hPc hKc hDc hE⟩ rfl rfl hl.1 rfl (lv_room (Nat.le_of_ble_eq_true rfl)) dX7_readValue_75 ⟨(Nat.le_of_ble_eq_true rfl), (Nat.le_of_ble_eq_true rfl)⟩) hS (fun q _ h => hFc q h) hFc (fun u t H1 locs ht hvm hw hB hz1 hk1 hS => ?_)
  obtain ⟨hP1, hK1, hD1⟩ := hB
  rw [ht] at hP1
  obtain ⟨hP, hD⟩ := va_join (wr := [(tp, .inr (9, [.ref tb, .int 0, .int 0, .int 1])), (ru, .inr (6, [.ref rs0, .int 1, .ref rs1, .ref rs2, .ref rs3, .int 0, .ref rs4])), (rs0, .inl (rsk0, 400, .inl g0_8))]) (w1 := [(rr, .inr (7, [.ref tp, .ref ru, .int 1]))]) hP hD [0] [1, 2, 3] rfl rfl (by decide) (by decide) hk1 hFc hP1 hD1
  generalize H1 = H at hP hS ⊢
  have hP : va_P (dC, dI) vwCl [(tp, .inr (9, [.ref tb, .int 0, .int 0, .int 1])), (ru, .inr (6, [.ref rs0, .int 1, .ref rs1, .ref rs2, .ref rs3, .int 0, .ref rs4])), (rs0, .inl (rsk0, 400, .inl g0_8)), (rr, .inr (7, [.ref tp, .ref ru, .int 1]))] H := hP
  have hD : va_D A [(tp, .inr (9, [.ref tb, .int 0, .int 0, .int 1])), (ru, .inr (6, [.ref rs0, .int 1, .ref rs1, .ref rs2, .ref rs3, .int 0, .ref rs4])), (rs0, .inl (rsk0, 400, .inl g0_8)), (rr, .inr (7, [.ref tp, .ref ru, .int 1]))] := hD
  have hP9 := hP.sub (ws' := [(rr, .inr (7, [.ref tp, .ref ru, .int 1])), (tp, .inr (9, [.ref tb, .int 0, .int 0, .int 1])), (ru, .inr (6, [.ref rs0, .int 1, .ref rs1, .ref rs2, .ref rs3, .int 0, .ref rs4])), (rs0, .inl (rsk0, 400, .inl g0_8))]) [3, 0, 1, 2] rfl
  have hD9 := hD.sub (ws' := [(rr, .inr (7, [.ref tp, .ref ru, .int 1])), (tp, .inr (9, [.ref tb, .int 0, .int 0, .int 1])), (ru, .inr (6, [.ref rs0, .int 1, .ref rs1, .ref rs2, .ref rs3, .int 0, .ref rs4])), (rs0, .inl (rsk0, 400, .inl g0_8))]) [3, 0, 1, 2] (by decide) rfl
  have hK9 := hK.sub (tys' := [(rsk0, .int)]) [0] rfl
  refine W.widen (k := 0) (n := 0) (Nat.le_of_ble_eq_true rfl) (Nat.le_of_ble_eq_true rfl) ?_
  exact W.vret hx hb hr (fun t ht hW => ⟨⟨(), rfl, trivial, ⟨g0_8, by rw [ht]; exact hP9, va_K.moved hW.alike hK9, hD9⟩⟩, hS.F ht⟩) hS.2.2 dX7_readValue_78
set_option maxHeartbeats 4000000 in
set_option maxRecDepth 100000 in
theorem c_readSum (l : Launch) (dC : Nat → ClassId) (dI : Nat → Nat → Nat) (aK aV : Nat → Nat) (rr : Nat) (tp : Nat) (tb : Nat) (ru : Nat) (rs0 : Nat) (rs1 : Nat) (rs2 : Nat) (rs3 : Nat) (rs4 : Nat) (rsk0 : ClassId) (f0 : Nat → Int32) (sz : Nat) : Met l yX7_readSum (ws_u yX7_readSum cX7_readSum 5 none) ({ frames := 4, cells := 0, slots := 0, locals := 87 }) (va_Pc [.ref rr] (cPreS (dC, dI) aK aV [(rsk0, .int)] [(rr, .inr (7, [.ref tp, .ref ru, .int 0])), (tp, .inr (9, [.ref tb, .int 0, .int 0, .int 1])), (ru, .inr (6, [.ref rs0, .int 0, .ref rs1, .ref rs2, .ref rs3, .int 0, .ref rs4])), (rs0, .inl (rsk0, 400, .inl f0))] sz)) (va_Qv (fun _ : Unit => True) (fun _ t => ∃ (g0 : Nat → Int32), cPost (dC, dI) [(rsk0, .int)] [(rr, .inr (7, [.ref tp, .ref ru, .int 1])), (tp, .inr (9, [.ref tb, .int 0, .int 0, .int 1])), (ru, .inr (6, [.ref rs0, .int 1, .ref rs1, .ref rs2, .ref rs3, .int 0, .ref rs4])), (rs0, .inl (rsk0, 400, .inl g0))] (va_A [(rr, .inr (7, [.ref tp, .ref ru, .int 0])), (tp, .inr (9, [.ref tb, .int 0, .int 0, .int 1])), (ru, .inr (6, [.ref rs0, .int 0, .ref rs1, .ref rs2, .ref rs3, .int 0, .ref rs4])), (rs0, .inl (rsk0, 400, .inl f0))] sz) t) (va_A [(rr, .inr (7, [.ref tp, .ref ru, .int 0])), (tp, .inr (9, [.ref tb, .int 0, .int 0, .int 1])), (ru, .inr (6, [.ref rs0, .int 0, .ref rs1, .ref rs2, .ref rs3, .int 0, .ref rs4])), (rs0, .inl (rsk0, 400, .inl f0))] sz)) 0 0 (va_A [(rr, .inr (7, [.ref tp, .ref ru, .int 0])), (tp, .inr (9, [.ref tb, .int 0, .int 0, .int 1])), (ru, .inr (6, [.ref rs0, .int 0, .ref rs1, .ref rs2, .ref rs3, .int 0, .ref rs4])), (rs0, .inl (rsk0, 400, .inl f0))] sz) := by
  refine Met.ofW (cc := cX7_readSum) (maxL := 5) (ret := none) (by decide) rfl ?_
  intro p e s m args below meth c s₁ B hml hv
  obtain ⟨rfl, ⟨hsz, hP, hK, hD0, hE⟩, hStr, hR⟩ := hv
  have hx := B.exec
  have hb := B.bytes
  have hr := B.returns
  have hts0 := atoms_spec (ws := ws_u yX7_readSum cX7_readSum 5 none) B.pre
  have hts : ∀ w ∈ gT, w.before _ s = true := fun w h => hts0 w (List.mem_cons_of_mem _ h)
  have hown : s.vm.findClass RX7 = some m.cls := findClass_of_methodNamed B.named
  have hlocks := B.notSynchronized
  subst hsz
  have hD := hD0.self (sz := s.heap.size)
  generalize hAe : va_A [(rr, .inr (7, [.ref tp, .ref ru, .int 0])), (tp, .inr (9, [.ref tb, .int 0, .int 0, .int 1])), (ru, .inr (6, [.ref rs0, .int 0, .ref rs1, .ref rs2, .ref rs3, .int 0, .ref rs4])), (rs0, .inl (rsk0, 400, .inl f0))] s.heap.size = A at hD hStr ⊢
  have hA : ∀ q : Nat, s.heap.size ≤ q → A q := fun q h => by rw [← hAe]; exact Or.inr h
  have hS : va_S A s.heap s.heap [] := va_S.rf
  have hl := lv_entry ([.ref rr]) (n := 5) (Nat.le_of_ble_eq_true rfl)
  rw [lg_entry_eq]
  generalize (lg_sl ([.ref rr]) ++ List.replicate (5 - (lg_sl ([.ref rr])).length) Slot.unset).toArray = ls at hl ⊢
  have hl : lv_has ls 5 [(0, .ref rr)] := hl
  have hP : va_P (dC, dI) vwCl [(rr, .inr (7, [.ref tp, .ref ru, .int 0])), (tp, .inr (9, [.ref tb, .int 0, .int 0, .int 1])), (ru, .inr (6, [.ref rs0, .int 0, .ref rs1, .ref rs2, .ref rs3, .int 0, .ref rs4])), (rs0, .inl (rsk0, 400, .inl f0))] s.heap := hP
  try clear hAe
  refine lv_iconst (v := 0) hx hb dX7_readSum_0 (by decide) ?_
  refine lv_istore_n (lv' := [(1, .int 0), (0, .ref rr)]) hx hb dX7_readSum_1 rfl hl (by decide) rfl (fun ls hl => ?_)
  refine lv_aload_n hx hb dX7_readSum_2 rfl (lv_at hl 1 rfl) ?_
  have hPc := hP.sub (ws' := [(rr, .inr (7, [.ref tp, .ref ru, .int 0])), (tp, .inr (9, [.ref tb, .int 0, .int 0, .int 1])), (ru, .inr (6, [.ref rs0, .int 0, .ref rs1, .ref rs2, .ref rs3, .int 0, .ref rs4])), (rs0, .inl (rsk0, 400, .inl f0))]) [0, 1, 2, 3] rfl
  have hDc := hD.sub (ws' := [(rr, .inr (7, [.ref tp, .ref ru, .int 0])), (tp, .inr (9, [.ref tb, .int 0, .int 0, .int 1])), (ru, .inr (6, [.ref rs0, .int 0, .ref rs1, .ref rs2, .ref rs3, .int 0, .ref rs4])), (rs0, .inl (rsk0, 400, .inl f0))]) [0, 1, 2, 3] (by decide) rfl
  have hKc := hK.sub (tys' := [(rsk0, .int)]) [0] rfl
  have hFc := va_free (wc := [(rr, .inr (7, [.ref tp, .ref ru, .int 0])), (tp, .inr (9, [.ref tb, .int 0, .int 0, .int 1])), (ru, .inr (6, [.ref rs0, .int 0, .ref rs1, .ref rs2, .ref rs3, .int 0, .ref rs4])), (rs0, .inl (rsk0, 400, .inl f0))]) hD hS hA [0, 1, 2, 3] rfl
  refine va_callv (va_runV (As := []) (rest := []) ⟨hx, hb, hml, hown, hts⟩ (c_readValue l dC dI aK aV rr tp tb ru rs0 rs1 rs2 rs3 rs4 rsk0 f0  s.heap.size) (cwV 0 hts (gUV tw_653 tw_655 ts_0_9 tw_5 tw_656) rfl rfl rfl (by decide +kernel) ⟨(Nat.le_of_ble_eq_true rfl), (Nat.le_of_ble_eq_true rfl)⟩) ⟨cPreS.blind, va_recv hKc hPc (ci := 7) (q0 := 0) rfl rfl, cPreS.use hPc hKc hDc hE hStr hR hS hFc⟩ rfl rfl hl.1 rfl (lv_room (Nat.le_of_ble_eq_true rfl)) dX7_readSum_3 ⟨(Nat.le_of_ble_eq_true rfl), (Nat.le_of_ble_eq_true rfl)⟩) hS (fun q _ h => hFc q h) hFc (fun u t H1 locs ht hvm hw hB hz1 hk1 hS => ?_)
  obtain ⟨g0_2, hP1, hK1, hD1⟩ := hB
  rw [ht] at hP1
  obtain ⟨hP, hD⟩ := va_join (wr := []) (w1 := [(rr, .inr (7, [.ref tp, .ref ru, .int 1])), (tp, .inr (9, [.ref tb, .int 0, .int 0, .int 1])), (ru, .inr (6, [.ref rs0, .int 1, .ref rs1, .ref rs2, .ref rs3, .int 0, .ref rs4])), (rs0, .inl (rsk0, 400, .inl g0_2))]) hP hD [0, 1, 2, 3] [] rfl rfl (by decide) (by decide) hk1 hFc hP1 hD1
  generalize H1 = H at hP hS ⊢
  have hP : va_P (dC, dI) vwCl [(rr, .inr (7, [.ref tp, .ref ru, .int 1])), (tp, .inr (9, [.ref tb, .int 0, .int 0, .int 1])), (ru, .inr (6, [.ref rs0, .int 1, .ref rs1, .ref rs2, .ref rs3, .int 0, .ref rs4])), (rs0, .inl (rsk0, 400, .inl g0_2))] H := hP
  have hD : va_D A [(rr, .inr (7, [.ref tp, .ref ru, .int 1])), (tp, .inr (9, [.ref tb, .int 0, .int 0, .int 1])), (ru, .inr (6, [.ref rs0, .int 1, .ref rs1, .ref rs2, .ref rs3, .int 0, .ref rs4])), (rs0, .inl (rsk0, 400, .inl g0_2))] := hD
  refine lv_iconst (v := 0) hx hb dX7_readSum_6 (by decide) ?_
  refine lv_istore_n (lv' := [(2, .int 0), (1, .int 0), (0, .ref rr)]) hx hb dX7_readSum_7 rfl hl (by decide) rfl (fun ls hl => ?_)
  refine lv_iload_n hx hb dX7_readSum_8 rfl (lv_at hl 0 rfl) ?_
  refine lv_sipush (v := 400) hx hb dX7_readSum_9 (by decide) ?_
  refine lv_icmp_ge (tgt := 97) hx hb dX7_readSum_12 (by decide) (fun c_3 => absurd c_3 (by decide)) (fun c_3 => ?_)
  refine lv_aload_n hx hb dX7_readSum_15 rfl (lv_at hl 2 rfl) ?_
  have hPc := hP.sub (ws' := [(rr, .inr (7, [.ref tp, .ref ru, .int 1])), (tp, .inr (9, [.ref tb, .int 0, .int 0, .int 1]))]) [0, 1] rfl
  have hDc := hD.sub (ws' := [(rr, .inr (7, [.ref tp, .ref ru, .int 1])), (tp, .inr (9, [.ref tb, .int 0, .int 0, .int 1]))]) [0, 1] (by decide) rfl
  have hKc := hK.sub (tys' := []) [] rfl
  have hFc := va_free (wc := [(rr, .inr (7, [.ref tp, .ref ru, .int 1])), (tp, .inr (9, [.ref tb, .int 0, .int 0, .int 1]))]) hD hS hA [0, 1] rfl
  refine va_calli (va_runV (As := []) (rest := []) ⟨hx, hb, hml, hown, hts⟩ (c_takeStep l dC dI rr tp tb ru  H.size) (cwV 0 hts (gUV tw_669 tw_671 ts_0_11 tw_5 tw_672) rfl rfl rfl (by decide +kernel) ⟨(Nat.le_of_ble_eq_true rfl), (Nat.le_of_ble_eq_true rfl)⟩) ⟨cPre.blind, va_recv hKc hPc (ci := 7) (q0 := 0) rfl rfl, cPre.use hPc hKc hDc hE⟩ rfl rfl hl.1 rfl (lv_room (Nat.le_of_ble_eq_true rfl)) dX7_readSum_16 ⟨(Nat.le_of_ble_eq_true rfl), (Nat.le_of_ble_eq_true rfl)⟩) hS (fun q _ h => hFc q h) hFc (fun r_4 u t H1 locs ht hvm hw hB hz1 hk1 hS => ?_)
  obtain ⟨hP1, hK1, hD1⟩ := hB
  rw [ht] at hP1
  obtain ⟨hP, hD⟩ := va_join (wr := [(ru, .inr (6, [.ref rs0, .int 1, .ref rs1, .ref rs2, .ref rs3, .int 0, .ref rs4])), (rs0, .inl (rsk0, 400, .inl g0_2))]) (w1 := [(rr, .inr (7, [.ref tp, .ref ru, .int 1])), (tp, .inr (9, [.ref tb, .int 0, .int 0, .int 1]))]) hP hD [0, 1] [2, 3] rfl rfl (by decide) (by decide) hk1 hFc hP1 hD1
  generalize H1 = H at hP hS ⊢
  have hP : va_P (dC, dI) vwCl [(ru, .inr (6, [.ref rs0, .int 1, .ref rs1, .ref rs2, .ref rs3, .int 0, .ref rs4])), (rs0, .inl (rsk0, 400, .inl g0_2)), (rr, .inr (7, [.ref tp, .ref ru, .int 1])), (tp, .inr (9, [.ref tb, .int 0, .int 0, .int 1]))] H := hP
  have hD : va_D A [(ru, .inr (6, [.ref rs0, .int 1, .ref rs1, .ref rs2, .ref rs3, .int 0, .ref rs4])), (rs0, .inl (rsk0, 400, .inl g0_2)), (rr, .inr (7, [.ref tp, .ref ru, .int 1])), (tp, .inr (9, [.ref tb, .int 0, .int 0, .int 1]))] := hD
  obtain rfl : r_4 = 0 := hw
  refine lv_istore_n (lv' := [(3, .int 0), (2, .int 0), (1, .int 0), (0, .ref rr)]) hx hb dX7_readSum_19 rfl hl (by decide) rfl (fun ls hl => ?_)
  refine lv_iload_n hx hb dX7_readSum_20 rfl (lv_at hl 0 rfl) ?_
  refine lv_if_ne (tgt := 27) hx hb dX7_readSum_21 (by decide) (fun c_5 => absurd (by decide) c_5) (fun c_5 => ?_)
  refine lv_goto (tgt := 97) hx hb dX7_readSum_24 (by decide) ?_
  refine lv_iload_n hx hb dX7_readSum_97 rfl (lv_at hl 2 rfl) ?_
  refine lv_if_eq (tgt := 109) hx hb dX7_readSum_98 (by decide) (fun c_6 => ?_) (fun c_6 => absurd (by decide) c_6)
  have hP9 := hP.sub (ws' := [(rr, .inr (7, [.ref tp, .ref ru, .int 1])), (tp, .inr (9, [.ref tb, .int 0, .int 0, .int 1])), (ru, .inr (6, [.ref rs0, .int 1, .ref rs1, .ref rs2, .ref rs3, .int 0, .ref rs4])), (rs0, .inl (rsk0, 400, .inl g0_2))]) [2, 3, 0, 1] rfl
  have hD9 := hD.sub (ws' := [(rr, .inr (7, [.ref tp, .ref ru, .int 1])), (tp, .inr (9, [.ref tb, .int 0, .int 0, .int 1])), (ru, .inr (6, [.ref rs0, .int 1, .ref rs1, .ref rs2, .ref rs3, .int 0, .ref rs4])), (rs0, .inl (rsk0, 400, .inl g0_2))]) [2, 3, 0, 1] (by decide) rfl
  have hK9 := hK.sub (tys' := [(rsk0, .int)]) [0] rfl
  refine W.widen (k := 0) (n := 0) (Nat.le_of_ble_eq_true rfl) (Nat.le_of_ble_eq_true rfl) ?_
  exact W.vret hx hb hr (fun t ht hW => ⟨⟨(), rfl, trivial, ⟨g0_2, by rw [ht]; exact hP9, va_K.moved hW.alike hK9, hD9⟩⟩, hS.F ht⟩) hS.2.2 dX7_readSum_109
set_option maxHeartbeats 4000000 in
set_option maxRecDepth 100000 in
theorem c_rread (l : Launch) (dC : Nat → ClassId) (dI : Nat → Nat → Nat) (aK aV : Nat → Nat) (rr : Nat) (tp : Nat) (tb : Nat) (ru : Nat) (rs0 : Nat) (rs1 : Nat) (rs2 : Nat) (rs3 : Nat) (rs4 : Nat) (rsk0 : ClassId) (rsk1 : ClassId) (rsk2 : ClassId) (rsk3 : ClassId) (f0 : Nat → Int32) (f1 : Nat → Int32) (f2 : Nat → Int32) (f3 : Nat → Int32) (sz : Nat) : Met l yX7_read (ws_u yX7_read cX7_read 5 (some .boolean)) ({ frames := 5, cells := 0, slots := 0, locals := 111 }) (va_Pc [.ref rr, .ref tp, .ref ru] (cPreS (dC, dI) aK aV [(rsk0, .int), (rsk1, .int), (rsk2, .int), (rsk3, .int)] [(rr, .inr (7, [.null, .null, .int 0])), (tp, .inr (9, [.ref tb, .int 0, .int 0, .int 0])), (ru, .inr (6, [.ref rs0, .int 0, .ref rs1, .ref rs2, .ref rs3, .int 0, .ref rs4])), (rs0, .inl (rsk0, 400, .inl f0)), (rs1, .inl (rsk1, 12, .inl f1)), (rs2, .inl (rsk2, 12, .inl f2)), (rs3, .inl (rsk3, 12, .inl f3))] sz)) (va_Qi (fun (r : Int32) (_ : Unit) => r = 0) (fun _ t => cPost (dC, dI) [] [(tp, .inr (9, [.ref tb, .int 0, .int 0, .int 1]))] (va_A [(rr, .inr (7, [.null, .null, .int 0])), (tp, .inr (9, [.ref tb, .int 0, .int 0, .int 0])), (ru, .inr (6, [.ref rs0, .int 0, .ref rs1, .ref rs2, .ref rs3, .int 0, .ref rs4])), (rs0, .inl (rsk0, 400, .inl f0)), (rs1, .inl (rsk1, 12, .inl f1)), (rs2, .inl (rsk2, 12, .inl f2)), (rs3, .inl (rsk3, 12, .inl f3))] sz) t) (va_A [(rr, .inr (7, [.null, .null, .int 0])), (tp, .inr (9, [.ref tb, .int 0, .int 0, .int 0])), (ru, .inr (6, [.ref rs0, .int 0, .ref rs1, .ref rs2, .ref rs3, .int 0, .ref rs4])), (rs0, .inl (rsk0, 400, .inl f0)), (rs1, .inl (rsk1, 12, .inl f1)), (rs2, .inl (rsk2, 12, .inl f2)), (rs3, .inl (rsk3, 12, .inl f3))] sz)) 0 0 (va_A [(rr, .inr (7, [.null, .null, .int 0])), (tp, .inr (9, [.ref tb, .int 0, .int 0, .int 0])), (ru, .inr (6, [.ref rs0, .int 0, .ref rs1, .ref rs2, .ref rs3, .int 0, .ref rs4])), (rs0, .inl (rsk0, 400, .inl f0)), (rs1, .inl (rsk1, 12, .inl f1)), (rs2, .inl (rsk2, 12, .inl f2)), (rs3, .inl (rsk3, 12, .inl f3))] sz) := by
  refine Met.ofW (cc := cX7_read) (maxL := 5) (ret := (some .boolean)) (by decide) rfl ?_
  intro p e s m args below meth c s₁ B hml hv
  obtain ⟨rfl, ⟨hsz, hP, hK, hD0, hE⟩, hStr, hR⟩ := hv
  have hx := B.exec
  have hb := B.bytes
  have hr := B.returns
  have hts0 := atoms_spec (ws := ws_u yX7_read cX7_read 5 (some .boolean)) B.pre
  have hts : ∀ w ∈ gT, w.before _ s = true := fun w h => hts0 w (List.mem_cons_of_mem _ h)
  have hown : s.vm.findClass RX7 = some m.cls := findClass_of_methodNamed B.named
  have hlocks := B.notSynchronized
  subst hsz
  have hD := hD0.self (sz := s.heap.size)
  generalize hAe : va_A [(rr, .inr (7, [.null, .null, .int 0])), (tp, .inr (9, [.ref tb, .int 0, .int 0, .int 0])), (ru, .inr (6, [.ref rs0, .int 0, .ref rs1, .ref rs2, .ref rs3, .int 0, .ref rs4])), (rs0, .inl (rsk0, 400, .inl f0)), (rs1, .inl (rsk1, 12, .inl f1)), (rs2, .inl (rsk2, 12, .inl f2)), (rs3, .inl (rsk3, 12, .inl f3))] s.heap.size = A at hD hStr ⊢
  have hA : ∀ q : Nat, s.heap.size ≤ q → A q := fun q h => by rw [← hAe]; exact Or.inr h
  have hS : va_S A s.heap s.heap [] := va_S.rf
  have hl := lv_entry ([.ref rr, .ref tp, .ref ru]) (n := 5) (Nat.le_of_ble_eq_true rfl)
  rw [lg_entry_eq]
  generalize (lg_sl ([.ref rr, .ref tp, .ref ru]) ++ List.replicate (5 - (lg_sl ([.ref rr, .ref tp, .ref ru])).length) Slot.unset).toArray = ls at hl ⊢
  have hl : lv_has ls 5 [(0, .ref rr), (1, .ref tp), (2, .ref ru)] := hl
  have hP : va_P (dC, dI) vwCl [(rr, .inr (7, [.null, .null, .int 0])), (tp, .inr (9, [.ref tb, .int 0, .int 0, .int 0])), (ru, .inr (6, [.ref rs0, .int 0, .ref rs1, .ref rs2, .ref rs3, .int 0, .ref rs4])), (rs0, .inl (rsk0, 400, .inl f0)), (rs1, .inl (rsk1, 12, .inl f1)), (rs2, .inl (rsk2, 12, .inl f2)), (rs3, .inl (rsk3, 12, .inl f3))] s.heap := hP
  try clear hAe
  refine lv_aload_n hx hb dX7_read_0 rfl (lv_at hl 0 rfl) ?_
  refine lv_aload_n hx hb dX7_read_1 rfl (lv_at hl 1 rfl) ?_
  refine va_put (D := (dC, dI)) (ci := 7) (v := .ref tp) (C := RX7) (T := TX7) (N := 3) hx hb hts iX7 tyX7 tyX7_ok nmX7 hown hK hP hD hS 0 rfl rfl 0 (by decide) (hts _ tw_166) (fun _ h9 => h9) rfl (tyX7_ok 0 (by decide)) rfl rfl (Nat.le_of_ble_eq_true rfl) dX7_read_2 (fun H locs hP hD hS => ?_)
  have hP : va_P (dC, dI) vwCl [(rr, .inr (7, [.ref tp, .null, .int 0])), (tp, .inr (9, [.ref tb, .int 0, .int 0, .int 0])), (ru, .inr (6, [.ref rs0, .int 0, .ref rs1, .ref rs2, .ref rs3, .int 0, .ref rs4])), (rs0, .inl (rsk0, 400, .inl f0)), (rs1, .inl (rsk1, 12, .inl f1)), (rs2, .inl (rsk2, 12, .inl f2)), (rs3, .inl (rsk3, 12, .inl f3))] H := hP
  have hD : va_D A [(rr, .inr (7, [.ref tp, .null, .int 0])), (tp, .inr (9, [.ref tb, .int 0, .int 0, .int 0])), (ru, .inr (6, [.ref rs0, .int 0, .ref rs1, .ref rs2, .ref rs3, .int 0, .ref rs4])), (rs0, .inl (rsk0, 400, .inl f0)), (rs1, .inl (rsk1, 12, .inl f1)), (rs2, .inl (rsk2, 12, .inl f2)), (rs3, .inl (rsk3, 12, .inl f3))] := hD
  refine lv_aload_n hx hb dX7_read_5 rfl (lv_at hl 0 rfl) ?_
  refine lv_aload_n hx hb dX7_read_6 rfl (lv_at hl 2 rfl) ?_
  refine va_put (D := (dC, dI)) (ci := 7) (v := .ref ru) (C := RX7) (T := TX7) (N := 3) hx hb hts iX7 tyX7 tyX7_ok nmX7 hown hK hP hD hS 0 rfl rfl 1 (by decide) (hts _ tw_167) (fun _ h9 => h9) rfl (tyX7_ok 1 (by decide)) rfl rfl (Nat.le_of_ble_eq_true rfl) dX7_read_7 (fun H locs hP hD hS => ?_)
  have hP : va_P (dC, dI) vwCl [(rr, .inr (7, [.ref tp, .ref ru, .int 0])), (tp, .inr (9, [.ref tb, .int 0, .int 0, .int 0])), (ru, .inr (6, [.ref rs0, .int 0, .ref rs1, .ref rs2, .ref rs3, .int 0, .ref rs4])), (rs0, .inl (rsk0, 400, .inl f0)), (rs1, .inl (rsk1, 12, .inl f1)), (rs2, .inl (rsk2, 12, .inl f2)), (rs3, .inl (rsk3, 12, .inl f3))] H := hP
  have hD : va_D A [(rr, .inr (7, [.ref tp, .ref ru, .int 0])), (tp, .inr (9, [.ref tb, .int 0, .int 0, .int 0])), (ru, .inr (6, [.ref rs0, .int 0, .ref rs1, .ref rs2, .ref rs3, .int 0, .ref rs4])), (rs0, .inl (rsk0, 400, .inl f0)), (rs1, .inl (rsk1, 12, .inl f1)), (rs2, .inl (rsk2, 12, .inl f2)), (rs3, .inl (rsk3, 12, .inl f3))] := hD
  refine lv_aload_n hx hb dX7_read_10 rfl (lv_at hl 0 rfl) ?_
  refine lv_iconst (v := 0) hx hb dX7_read_11 (by decide) ?_
  refine va_put (D := (dC, dI)) (ci := 7) (v := .int 0) (C := RX7) (T := TX7) (N := 3) hx hb hts iX7 tyX7 tyX7_ok nmX7 hown hK hP hD hS 0 rfl rfl 2 (by decide) (hts _ tw_168) (fun _ h9 => h9) rfl (tyX7_ok 2 (by decide)) rfl rfl (Nat.le_of_ble_eq_true rfl) dX7_read_12 (fun H locs hP hD hS => ?_)
  have hP : va_P (dC, dI) vwCl [(rr, .inr (7, [.ref tp, .ref ru, .int 0])), (tp, .inr (9, [.ref tb, .int 0, .int 0, .int 0])), (ru, .inr (6, [.ref rs0, .int 0, .ref rs1, .ref rs2, .ref rs3, .int 0, .ref rs4])), (rs0, .inl (rsk0, 400, .inl f0)), (rs1, .inl (rsk1, 12, .inl f1)), (rs2, .inl (rsk2, 12, .inl f2)), (rs3, .inl (rsk3, 12, .inl f3))] H := hP
  have hD : va_D A [(rr, .inr (7, [.ref tp, .ref ru, .int 0])), (tp, .inr (9, [.ref tb, .int 0, .int 0, .int 0])), (ru, .inr (6, [.ref rs0, .int 0, .ref rs1, .ref rs2, .ref rs3, .int 0, .ref rs4])), (rs0, .inl (rsk0, 400, .inl f0)), (rs1, .inl (rsk1, 12, .inl f1)), (rs2, .inl (rsk2, 12, .inl f2)), (rs3, .inl (rsk3, 12, .inl f3))] := hD
  refine lv_aload_n hx hb dX7_read_15 rfl (lv_at hl 0 rfl) ?_
  refine va_get (D := (dC, dI)) (ci := 7) (v := .ref ru) (C := RX7) (T := TX7) (N := 3) hx hb hts iX7 hown hK hP 0 rfl rfl 1 (by decide) (hts _ tw_167) (fun _ h9 => h9) rfl dX7_read_16 ?_
  have hPc := hP.sub (ws' := [(ru, .inr (6, [.ref rs0, .int 0, .ref rs1, .ref rs2, .ref rs3, .int 0, .ref rs4]))]) [2] rfl
  have hDc := hD.sub (ws' := [(ru, .inr (6, [.ref rs0, .int 0, .ref rs1, .ref rs2, .ref rs3, .int 0, .ref rs4]))]) [2] (by decide) rfl
  have hKc := hK.sub (tys' := []) [] rfl
  have hFc := va_free (wc := [(ru, .inr (6, [.ref rs0, .int 0, .ref rs1, .ref rs2, .ref rs3, .int 0, .ref rs4]))]) hD hS hA [2] rfl
  refine va_callv (va_runV (As := []) (rest := []) ⟨hx, hb, hml, hown, hts⟩ (c_Rule_clear l dC dI ru rs0 rs1 rs2 rs3 rs4  H.size) (cwV 0 hts (gUV tw_637 tw_638 tw_639 tw_6 tw_640) rfl rfl rfl (by decide +kernel) ⟨(Nat.le_of_ble_eq_true rfl), (Nat.le_of_ble_eq_true rfl)⟩) ⟨cPre.blind, va_recv hKc hPc (ci := 6) (q0 := 0) rfl rfl, cPre.use hPc hKc hDc hE⟩ rfl rfl hl.1 rfl (lv_room (Nat.le_of_ble_eq_true rfl)) dX7_read_19 ⟨(Nat.le_of_ble_eq_true rfl), (Nat.le_of_ble_eq_true rfl)⟩) hS (fun q _ h => hFc q h) hFc (fun u t H1 locs ht hvm hw hB hz1 hk1 hS => ?_)
  obtain ⟨hP1, hK1, hD1⟩ := hB
  rw [ht] at hP1
  obtain ⟨hP, hD⟩ := va_join (wr := [(rr, .inr (7, [.ref tp, .ref ru, .int 0])), (tp, .inr (9, [.ref tb, .int 0, .int 0, .int 0])), (rs0, .inl (rsk0, 400, .inl f0)), (rs1, .inl (rsk1, 12, .inl f1)), (rs2, .inl (rsk2, 12, .inl f2)), (rs3, .inl (rsk3, 12, .inl f3))]) (w1 := [(ru, .inr (6, [.ref rs0, .int 0, .ref rs1, .ref rs2, .ref rs3, .int 0, .ref rs4]))]) hP hD [2] [0, 1, 3, 4, 5, 6] rfl rfl (by decide) (by decide) hk1 hFc hP1 hD1
  generalize H1 = H at hP hS ⊢
  have hP : va_P (dC, dI) vwCl [(rr, .inr (7, [.ref tp, .ref ru, .int 0])), (tp, .inr (9, [.ref tb, .int 0, .int 0, .int 0])), (rs0, .inl (rsk0, 400, .inl f0)), (rs1, .inl (rsk1, 12, .inl f1)), (rs2, .inl (rsk2, 12, .inl f2)), (rs3, .inl (rsk3, 12, .inl f3)), (ru, .inr (6, [.ref rs0, .int 0, .ref rs1, .ref rs2, .ref rs3, .int 0, .ref rs4]))] H := hP
  have hD : va_D A [(rr, .inr (7, [.ref tp, .ref ru, .int 0])), (tp, .inr (9, [.ref tb, .int 0, .int 0, .int 0])), (rs0, .inl (rsk0, 400, .inl f0)), (rs1, .inl (rsk1, 12, .inl f1)), (rs2, .inl (rsk2, 12, .inl f2)), (rs3, .inl (rsk3, 12, .inl f3)), (ru, .inr (6, [.ref rs0, .int 0, .ref rs1, .ref rs2, .ref rs3, .int 0, .ref rs4]))] := hD
  refine lv_aload_n hx hb dX7_read_22 rfl (lv_at hl 0 rfl) ?_
  refine va_get (D := (dC, dI)) (ci := 7) (v := .ref tp) (C := RX7) (T := TX7) (N := 3) hx hb hts iX7 hown hK hP 0 rfl rfl 0 (by decide) (hts _ tw_166) (fun _ h9 => h9) rfl dX7_read_23 ?_
  have hPc := hP.sub (ws' := [(tp, .inr (9, [.ref tb, .int 0, .int 0, .int 0]))]) [1] rfl
  have hDc := hD.sub (ws' := [(tp, .inr (9, [.ref tb, .int 0, .int 0, .int 0]))]) [1] (by decide) rfl
  have hKc := hK.sub (tys' := []) [] rfl
  have hFc := va_free (wc := [(tp, .inr (9, [.ref tb, .int 0, .int 0, .int 0]))]) hD hS hA [1] rfl
  refine va_callv (va_runV (As := []) (rest := []) ⟨hx, hb, hml, hown, hts⟩ (c_startReading l dC dI tp tb  H.size) (cwV 0 hts (gUV tw_641 tw_493 tw_494 tw_2 tw_495) rfl rfl rfl (by decide +kernel) ⟨(Nat.le_of_ble_eq_true rfl), (Nat.le_of_ble_eq_true rfl)⟩) ⟨cPre.blind, va_recv hKc hPc (ci := 9) (q0 := 0) rfl rfl, cPre.use hPc hKc hDc hE⟩ rfl rfl hl.1 rfl (lv_room (Nat.le_of_ble_eq_true rfl)) dX7_read_26 ⟨(Nat.le_of_ble_eq_true rfl), (Nat.le_of_ble_eq_true rfl)⟩) hS (fun q _ h => hFc q h) hFc (fun u t H1 locs ht hvm hw hB hz1 hk1 hS => ?_)
  obtain ⟨hP1, hK1, hD1⟩ := hB
  rw [ht] at hP1
  obtain ⟨hP, hD⟩ := va_join (wr := [(rr, .inr (7, [.ref tp, .ref ru, .int 0])), (rs0, .inl (rsk0, 400, .inl f0)), (rs1, .inl (rsk1, 12, .inl f1)), (rs2, .inl (rsk2, 12, .inl f2)), (rs3, .inl (rsk3, 12, .inl f3)), (ru, .inr (6, [.ref rs0, .int 0, .ref rs1, .ref rs2, .ref rs3, .int 0, .ref rs4]))]) (w1 := [(tp, .inr (9, [.ref tb, .int 0, .int 0, .int 0]))]) hP hD [1] [0, 2, 3, 4, 5, 6] rfl rfl (by decide) (by decide) hk1 hFc hP1 hD1
  generalize H1 = H at hP hS ⊢
  have hP : va_P (dC, dI) vwCl [(rr, .inr (7, [.ref tp, .ref ru, .int 0])), (rs0, .inl (rsk0, 400, .inl f0)), (rs1, .inl (rsk1, 12, .inl f1)), (rs2, .inl (rsk2, 12, .inl f2)), (rs3, .inl (rsk3, 12, .inl f3)), (ru, .inr (6, [.ref rs0, .int 0, .ref rs1, .ref rs2, .ref rs3, .int 0, .ref rs4])), (tp, .inr (9, [.ref tb, .int 0, .int 0, .int 0]))] H := hP
  have hD : va_D A [(rr, .inr (7, [.ref tp, .ref ru, .int 0])), (rs0, .inl (rsk0, 400, .inl f0)), (rs1, .inl (rsk1, 12, .inl f1)), (rs2, .inl (rsk2, 12, .inl f2)), (rs3, .inl (rsk3, 12, .inl f3)), (ru, .inr (6, [.ref rs0, .int 0, .ref rs1, .ref rs2, .ref rs3, .int 0, .ref rs4])), (tp, .inr (9, [.ref tb, .int 0, .int 0, .int 0]))] := hD
  refine lv_iconst (v := 0) hx hb dX7_read_29 (by decide) ?_
  refine lv_istore_n (lv' := [(3, .int 0), (0, .ref rr), (1, .ref tp), (2, .ref ru)]) hx hb dX7_read_30 rfl hl (by decide) rfl (fun ls hl => ?_)
  refine lv_iload_n hx hb dX7_read_31 rfl (lv_at hl 0 rfl) ?_
  refine lv_bipush (v := 12) hx hb dX7_read_32 (by decide) ?_
  refine lv_icmp_gt (tgt := 187) hx hb dX7_read_34 (by decide) (fun c_3 => absurd c_3 (by decide)) (fun c_3 => ?_)
  refine lv_aload_n hx hb dX7_read_37 rfl (lv_at hl 1 rfl) ?_
  refine va_get (D := (dC, dI)) (ci := 7) (v := .ref tp) (C := RX7) (T := TX7) (N := 3) hx hb hts iX7 hown hK hP 0 rfl rfl 0 (by decide) (hts _ tw_166) (fun _ h9 => h9) rfl dX7_read_38 ?_
  refine va_get (D := (dC, dI)) (ci := 9) (v := .int 0) (C := RX9) (T := TX9) (N := 4) hx hb hts iX9 hown hK hP 6 rfl rfl 2 (by decide) (hts _ tw_39) (fun _ h9 => h9) rfl dX7_read_41 ?_
  refine lv_istore (lv' := [(4, .int 0), (3, .int 0), (0, .ref rr), (1, .ref tp), (2, .ref ru)]) hx hb dX7_read_44 hl (by decide) rfl (fun ls hl => ?_)
  refine lv_aload_n hx hb dX7_read_46 rfl (lv_at hl 2 rfl) ?_
  refine va_get (D := (dC, dI)) (ci := 7) (v := .ref tp) (C := RX7) (T := TX7) (N := 3) hx hb hts iX7 hown hK hP 0 rfl rfl 0 (by decide) (hts _ tw_166) (fun _ h9 => h9) rfl dX7_read_47 ?_
  refine va_ldcS hx hb hown hR.2.1 dX7_read_50 ?_
  have hPc := hP.sub (ws' := [(tp, .inr (9, [.ref tb, .int 0, .int 0, .int 0]))]) [6] rfl
  have hDc := hD.sub (ws' := [(tp, .inr (9, [.ref tb, .int 0, .int 0, .int 0]))]) [6] (by decide) rfl
  have hKc := hK.sub (tys' := []) [] rfl
  have hFc := va_free (wc := [(tp, .inr (9, [.ref tb, .int 0, .int 0, .int 0]))]) hD hS hA [6] rfl
  refine va_calli (va_runV (As := [.ref (aK 1)]) (rest := []) ⟨hx, hb, hml, hown, hts⟩ (c_takeWord_1 l dC dI aK aV tp tb  H.size) (cwV 1 hts (gUV tw_643 tw_506 tw_507 tw_2 tw_508) rfl rfl rfl (by decide +kernel) ⟨(Nat.le_of_ble_eq_true rfl), (Nat.le_of_ble_eq_true rfl)⟩) ⟨cPreS.blind, va_recv hKc hPc (ci := 9) (q0 := 0) rfl rfl, cPreS.use hPc hKc hDc hE hStr hR hS hFc⟩ rfl rfl hl.1 rfl (lv_room (Nat.le_of_ble_eq_true rfl)) dX7_read_52 ⟨(Nat.le_of_ble_eq_true rfl), (Nat.le_of_ble_eq_true rfl)⟩) hS (fun q _ h => hFc q h) hFc (fun r_4 u t H1 locs ht hvm hw hB hz1 hk1 hS => ?_)
  obtain ⟨hP1, hK1, hD1⟩ := hB
  rw [ht] at hP1
  obtain ⟨hP, hD⟩ := va_join (wr := [(rr, .inr (7, [.ref tp, .ref ru, .int 0])), (rs0, .inl (rsk0, 400, .inl f0)), (rs1, .inl (rsk1, 12, .inl f1)), (rs2, .inl (rsk2, 12, .inl f2)), (rs3, .inl (rsk3, 12, .inl f3)), (ru, .inr (6, [.ref rs0, .int 0, .ref rs1, .ref rs2, .ref rs3, .int 0, .ref rs4]))]) (w1 := [(tp, .inr (9, [.ref tb, .int 0, .int 0, .int 0]))]) hP hD [6] [0, 1, 2, 3, 4, 5] rfl rfl (by decide) (by decide) hk1 hFc hP1 hD1
  generalize H1 = H at hP hS ⊢
  have hP : va_P (dC, dI) vwCl [(rr, .inr (7, [.ref tp, .ref ru, .int 0])), (rs0, .inl (rsk0, 400, .inl f0)), (rs1, .inl (rsk1, 12, .inl f1)), (rs2, .inl (rsk2, 12, .inl f2)), (rs3, .inl (rsk3, 12, .inl f3)), (ru, .inr (6, [.ref rs0, .int 0, .ref rs1, .ref rs2, .ref rs3, .int 0, .ref rs4])), (tp, .inr (9, [.ref tb, .int 0, .int 0, .int 0]))] H := hP
  have hD : va_D A [(rr, .inr (7, [.ref tp, .ref ru, .int 0])), (rs0, .inl (rsk0, 400, .inl f0)), (rs1, .inl (rsk1, 12, .inl f1)), (rs2, .inl (rsk2, 12, .inl f2)), (rs3, .inl (rsk3, 12, .inl f3)), (ru, .inr (6, [.ref rs0, .int 0, .ref rs1, .ref rs2, .ref rs3, .int 0, .ref rs4])), (tp, .inr (9, [.ref tb, .int 0, .int 0, .int 0]))] := hD
  obtain rfl : r_4 = (-1) := hw
  refine lv_iconst (v := (-1)) hx hb dX7_read_55 (by decide) ?_
  refine lv_icmp_ne (tgt := 72) hx hb dX7_read_56 (by decide) (fun c_5 => absurd (by decide) c_5) (fun c_5 => ?_)
  refine lv_aload_n hx hb dX7_read_59 rfl (lv_at hl 2 rfl) ?_
  refine va_get (D := (dC, dI)) (ci := 7) (v := .ref tp) (C := RX7) (T := TX7) (N := 3) hx hb hts iX7 hown hK hP 0 rfl rfl 0 (by decide) (hts _ tw_166) (fun _ h9 => h9) rfl dX7_read_60 ?_
  refine lv_iload hx hb dX7_read_63 (lv_at hl 0 rfl) ?_
  refine lv_iconst (v := 0) hx hb dX7_read_65 (by decide) ?_
  have hPc := hP.sub (ws' := [(tp, .inr (9, [.ref tb, .int 0, .int 0, .int 0]))]) [6] rfl
  have hDc := hD.sub (ws' := [(tp, .inr (9, [.ref tb, .int 0, .int 0, .int 0]))]) [6] (by decide) rfl
  have hKc := hK.sub (tys' := []) [] rfl
  have hFc := va_free (wc := [(tp, .inr (9, [.ref tb, .int 0, .int 0, .int 0]))]) hD hS hA [6] rfl
  refine va_callv (va_runV (As := [.int 0, .int 0]) (rest := []) ⟨hx, hb, hml, hown, hts⟩ (c_fail_0 l dC dI tp tb  H.size) (cwV 2 hts (gUV tw_644 tw_562 tw_563 tw_2 tw_564) rfl rfl rfl (by decide +kernel) ⟨(Nat.le_of_ble_eq_true rfl), (Nat.le_of_ble_eq_true rfl)⟩) ⟨cPre.blind, va_recv hKc hPc (ci := 9) (q0 := 0) rfl rfl, cPre.use hPc hKc hDc hE⟩ rfl rfl hl.1 rfl (lv_room (Nat.le_of_ble_eq_true rfl)) dX7_read_66 ⟨(Nat.le_of_ble_eq_true rfl), (Nat.le_of_ble_eq_true rfl)⟩) hS (fun q _ h => hFc q h) hFc (fun u t H1 locs ht hvm hw hB hz1 hk1 hS => ?_)
  obtain ⟨hP1, hK1, hD1⟩ := hB
  rw [ht] at hP1
  obtain ⟨hP, hD⟩ := va_join (wr := [(rr, .inr (7, [.ref tp, .ref ru, .int 0])), (rs0, .inl (rsk0, 400, .inl f0)), (rs1, .inl (rsk1, 12, .inl f1)), (rs2, .inl (rsk2, 12, .inl f2)), (rs3, .inl (rsk3, 12, .inl f3)), (ru, .inr (6, [.ref rs0, .int 0, .ref rs1, .ref rs2, .ref rs3, .int 0, .ref rs4]))]) (w1 := [(tp, .inr (9, [.ref tb, .int 0, .int 0, .int 1]))]) hP hD [6] [0, 1, 2, 3, 4, 5] rfl rfl (by decide) (by decide) hk1 hFc hP1 hD1
  generalize H1 = H at hP hS ⊢
  have hP : va_P (dC, dI) vwCl [(rr, .inr (7, [.ref tp, .ref ru, .int 0])), (rs0, .inl (rsk0, 400, .inl f0)), (rs1, .inl (rsk1, 12, .inl f1)), (rs2, .inl (rsk2, 12, .inl f2)), (rs3, .inl (rsk3, 12, .inl f3)), (ru, .inr (6, [.ref rs0, .int 0, .ref rs1, .ref rs2, .ref rs3, .int 0, .ref rs4])), (tp, .inr (9, [.ref tb, .int 0, .int 0, .int 1]))] H := hP
  have hD : va_D A [(rr, .inr (7, [.ref tp, .ref ru, .int 0])), (rs0, .inl (rsk0, 400, .inl f0)), (rs1, .inl (rsk1, 12, .inl f1)), (rs2, .inl (rsk2, 12, .inl f2)), (rs3, .inl (rsk3, 12, .inl f3)), (ru, .inr (6, [.ref rs0, .int 0, .ref rs1, .ref rs2, .ref rs3, .int 0, .ref rs4])), (tp, .inr (9, [.ref tb, .int 0, .int 0, .int 1]))] := hD
  refine lv_goto (tgt := 88) hx hb dX7_read_69 (by decide) ?_
  refine lv_aload_n hx hb dX7_read_88 rfl (lv_at hl 2 rfl) ?_
  refine va_get (D := (dC, dI)) (ci := 7) (v := .ref ru) (C := RX7) (T := TX7) (N := 3) hx hb hts iX7 hown hK hP 0 rfl rfl 1 (by decide) (hts _ tw_167) (fun _ h9 => h9) rfl dX7_read_89 ?_
  have hPc := hP.sub (ws' := [(ru, .inr (6, [.ref rs0, .int 0, .ref rs1, .ref rs2, .ref rs3, .int 0, .ref rs4])), (rs1, .inl (rsk1, 12, .inl f1))]) [5, 2] rfl
  have hDc := hD.sub (ws' := [(ru, .inr (6, [.ref rs0, .int 0, .ref rs1, .ref rs2, .ref rs3, .int 0, .ref rs4])), (rs1, .inl (rsk1, 12, .inl f1))]) [5, 2] (by decide) rfl
  have hKc := hK.sub (tys' := [(rsk1, .int)]) [1] rfl
  have hFc := va_free (wc := [(ru, .inr (6, [.ref rs0, .int 0, .ref rs1, .ref rs2, .ref rs3, .int 0, .ref rs4])), (rs1, .inl (rsk1, 12, .inl f1))]) hD hS hA [5, 2] rfl
  refine va_callv (va_runV (As := []) (rest := []) ⟨hx, hb, hml, hown, hts⟩ (c_beginClause l dC dI ru rs0 rs1 rs2 rs3 rs4 rsk1 f1  H.size) (cwV 0 hts (gUV tw_645 tw_646 tw_647 tw_6 tw_648) rfl rfl rfl (by decide +kernel) ⟨(Nat.le_of_ble_eq_true rfl), (Nat.le_of_ble_eq_true rfl)⟩) ⟨cPre.blind, va_recv hKc hPc (ci := 6) (q0 := 0) rfl rfl, cPre.use hPc hKc hDc hE⟩ rfl rfl hl.1 rfl (lv_room (Nat.le_of_ble_eq_true rfl)) dX7_read_92 ⟨(Nat.le_of_ble_eq_true rfl), (Nat.le_of_ble_eq_true rfl)⟩) hS (fun q _ h => hFc q h) hFc (fun u t H1 locs ht hvm hw hB hz1 hk1 hS => ?_)
  obtain ⟨g1_8, hP1, hK1, hD1⟩ := hB
  rw [ht] at hP1
  obtain ⟨hP, hD⟩ := va_join (wr := [(rr, .inr (7, [.ref tp, .ref ru, .int 0])), (rs0, .inl (rsk0, 400, .inl f0)), (rs2, .inl (rsk2, 12, .inl f2)), (rs3, .inl (rsk3, 12, .inl f3)), (tp, .inr (9, [.ref tb, .int 0, .int 0, .int 1]))]) (w1 := [(ru, .inr (6, [.ref rs0, .int 0, .ref rs1, .ref rs2, .ref rs3, .int 0, .ref rs4])), (rs1, .inl (rsk1, 12, .inl g1_8))]) hP hD [5, 2] [0, 1, 3, 4, 6] rfl rfl (by decide) (by decide) hk1 hFc hP1 hD1
  generalize H1 = H at hP hS ⊢
  have hP : va_P (dC, dI) vwCl [(rr, .inr (7, [.ref tp, .ref ru, .int 0])), (rs0, .inl (rsk0, 400, .inl f0)), (rs2, .inl (rsk2, 12, .inl f2)), (rs3, .inl (rsk3, 12, .inl f3)), (tp, .inr (9, [.ref tb, .int 0, .int 0, .int 1])), (ru, .inr (6, [.ref rs0, .int 0, .ref rs1, .ref rs2, .ref rs3, .int 0, .ref rs4])), (rs1, .inl (rsk1, 12, .inl g1_8))] H := hP
  have hD : va_D A [(rr, .inr (7, [.ref tp, .ref ru, .int 0])), (rs0, .inl (rsk0, 400, .inl f0)), (rs2, .inl (rsk2, 12, .inl f2)), (rs3, .inl (rsk3, 12, .inl f3)), (tp, .inr (9, [.ref tb, .int 0, .int 0, .int 1])), (ru, .inr (6, [.ref rs0, .int 0, .ref rs1, .ref rs2, .ref rs3, .int 0, .ref rs4])), (rs1, .inl (rsk1, 12, .inl g1_8))] := hD
  refine lv_aload_n hx hb dX7_read_95 rfl (lv_at hl 2 rfl) ?_
  have hPc := hP.sub (ws' := [(rr, .inr (7, [.ref tp, .ref ru, .int 0])), (tp, .inr (9, [.ref tb, .int 0, .int 0, .int 1])), (ru, .inr (6, [.ref rs0, .int 0, .ref rs1, .ref rs2, .ref rs3, .int 0, .ref rs4])), (rs0, .inl (rsk0, 400, .inl f0))]) [0, 4, 5, 1] rfl
  have hDc := hD.sub (ws' := [(rr, .inr (7, [.ref tp, .ref ru, .int 0])), (tp, .inr (9, [.ref tb, .int 0, .int 0, .int 1])), (ru, .inr (6, [.ref rs0, .int 0, .ref rs1, .ref rs2, .ref rs3, .int 0, .ref rs4])), (rs0, .inl (rsk0, 400, .inl f0))]) [0, 4, 5, 1] (by decide) rfl
  have hKc := hK.sub (tys' := [(rsk0, .int)]) [0] rfl
  have hFc := va_free (wc := [(rr, .inr (7, [.ref tp, .ref ru, .int 0])), (tp, .inr (9, [.ref tb, .int 0, .int 0, .int 1])), (ru, .inr (6, [.ref rs0, .int 0, .ref rs1, .ref rs2, .ref rs3, .int 0, .ref rs4])), (rs0, .inl (rsk0, 400, .inl f0))]) hD hS hA [0, 4, 5, 1] rfl
  refine va_callv (va_runV (As := []) (rest := []) ⟨hx, hb, hml, hown, hts⟩ (c_readSum l dC dI aK aV rr tp tb ru rs0 rs1 rs2 rs3 rs4 rsk0 f0  H.size) (cwV 0 hts (gUV tw_649 tw_651 ts_0_8 tw_5 tw_652) rfl rfl rfl (by decide +kernel) ⟨(Nat.le_of_ble_eq_true rfl), (Nat.le_of_ble_eq_true rfl)⟩) ⟨cPreS.blind, va_recv hKc hPc (ci := 7) (q0 := 0) rfl rfl, cPreS.use hPc hKc hDc hE hStr hR hS hFc⟩ rfl rfl hl.1 rfl (lv_room (Nat.le_of_ble_eq_true rfl)) dX7_read_96 ⟨(Nat.le_of_ble_eq_true rfl), (Nat.le_of_ble_eq_true rfl)⟩) hS (fun q _ h => hFc q h) hFc (fun u t H1 locs ht hvm hw hB hz1 hk1 hS => ?_)
  obtain ⟨g0_10, hP1, hK1, hD1⟩ := hB
  rw [ht] at hP1
  obtain ⟨hP, hD⟩ := va_join (wr := [(rs2, .inl (rsk2, 12, .inl f2)), (rs3, .inl (rsk3, 12, .inl f3)), (rs1, .inl (rsk1, 12, .inl g1_8))]) (w1 := [(rr, .inr (7, [.ref tp, .ref ru, .int 1])), (tp, .inr (9, [.ref tb, .int 0, .int 0, .int 1])), (ru, .inr (6, [.ref rs0, .int 1, .ref rs1, .ref rs2, .ref rs3, .int 0, .ref rs4])), (rs0, .inl (rsk0, 400, .inl g0_10))]) hP hD [0, 4, 5, 1] [2, 3, 6] rfl rfl (by decide) (by decide) hk1 hFc hP1 hD1
  generalize H1 = H at hP hS ⊢
  have hP : va_P (dC, dI) vwCl [(rs2, .inl (rsk2, 12, .inl f2)), (rs3, .inl (rsk3, 12, .inl f3)), (rs1, .inl (rsk1, 12, .inl g1_8)), (rr, .inr (7, [.ref tp, .ref ru, .int 1])), (tp, .inr (9, [.ref tb, .int 0, .int 0, .int 1])), (ru, .inr (6, [.ref rs0, .int 1, .ref rs1, .ref rs2, .ref rs3, .int 0, .ref rs4])), (rs0, .inl (rsk0, 400, .inl g0_10))] H := hP
  have hD : va_D A [(rs2, .inl (rsk2, 12, .inl f2)), (rs3, .inl (rsk3, 12, .inl f3)), (rs1, .inl (rsk1, 12, .inl g1_8)), (rr, .inr (7, [.ref tp, .ref ru, .int 1])), (tp, .inr (9, [.ref tb, .int 0, .int 0, .int 1])), (ru, .inr (6, [.ref rs0, .int 1, .ref rs1, .ref rs2, .ref rs3, .int 0, .ref rs4])), (rs0, .inl (rsk0, 400, .inl g0_10))] := hD
  refine lv_aload_n hx hb dX7_read_99 rfl (lv_at hl 2 rfl) ?_
  refine va_get (D := (dC, dI)) (ci := 7) (v := .ref ru) (C := RX7) (T := TX7) (N := 3) hx hb hts iX7 hown hK hP 3 rfl rfl 1 (by decide) (hts _ tw_167) (fun _ h9 => h9) rfl dX7_read_100 ?_
  have hPc := hP.sub (ws' := [(ru, .inr (6, [.ref rs0, .int 1, .ref rs1, .ref rs2, .ref rs3, .int 0, .ref rs4])), (rs2, .inl (rsk2, 12, .inl f2))]) [5, 0] rfl
  have hDc := hD.sub (ws' := [(ru, .inr (6, [.ref rs0, .int 1, .ref rs1, .ref rs2, .ref rs3, .int 0, .ref rs4])), (rs2, .inl (rsk2, 12, .inl f2))]) [5, 0] (by decide) rfl
  have hKc := hK.sub (tys' := [(rsk2, .int)]) [2] rfl
  have hFc := va_free (wc := [(ru, .inr (6, [.ref rs0, .int 1, .ref rs1, .ref rs2, .ref rs3, .int 0, .ref rs4])), (rs2, .inl (rsk2, 12, .inl f2))]) hD hS hA [5, 0] rfl
  refine va_callv (va_runV (As := []) (rest := []) ⟨hx, hb, hml, hown, hts⟩ (c_beginTest l dC dI ru rs0 rs1 rs2 rs3 rs4 rsk2 f2  H.size) (cwV 0 hts (gUV tw_674 tw_675 tw_676 tw_6 tw_677) rfl rfl rfl (by decide +kernel) ⟨(Nat.le_of_ble_eq_true rfl), (Nat.le_of_ble_eq_true rfl)⟩) ⟨cPre.blind, va_recv hKc hPc (ci := 6) (q0 := 0) rfl rfl, cPre.use hPc hKc hDc hE⟩ rfl rfl hl.1 rfl (lv_room (Nat.le_of_ble_eq_true rfl)) dX7_read_103 ⟨(Nat.le_of_ble_eq_true rfl), (Nat.le_of_ble_eq_true rfl)⟩) hS (fun q _ h => hFc q h) hFc (fun u t H1 locs ht hvm hw hB hz1 hk1 hS => ?_)
  obtain ⟨g2_12, hP1, hK1, hD1⟩ := hB
  rw [ht] at hP1
  obtain ⟨hP, hD⟩ := va_join (wr := [(rs3, .inl (rsk3, 12, .inl f3)), (rs1, .inl (rsk1, 12, .inl g1_8)), (rr, .inr (7, [.ref tp, .ref ru, .int 1])), (tp, .inr (9, [.ref tb, .int 0, .int 0, .int 1])), (rs0, .inl (rsk0, 400, .inl g0_10))]) (w1 := [(ru, .inr (6, [.ref rs0, .int 1, .ref rs1, .ref rs2, .ref rs3, .int 0, .ref rs4])), (rs2, .inl (rsk2, 12, .inl g2_12))]) hP hD [5, 0] [1, 2, 3, 4, 6] rfl rfl (by decide) (by decide) hk1 hFc hP1 hD1
  generalize H1 = H at hP hS ⊢
  have hP : va_P (dC, dI) vwCl [(rs3, .inl (rsk3, 12, .inl f3)), (rs1, .inl (rsk1, 12, .inl g1_8)), (rr, .inr (7, [.ref tp, .ref ru, .int 1])), (tp, .inr (9, [.ref tb, .int 0, .int 0, .int 1])), (rs0, .inl (rsk0, 400, .inl g0_10)), (ru, .inr (6, [.ref rs0, .int 1, .ref rs1, .ref rs2, .ref rs3, .int 0, .ref rs4])), (rs2, .inl (rsk2, 12, .inl g2_12))] H := hP
  have hD : va_D A [(rs3, .inl (rsk3, 12, .inl f3)), (rs1, .inl (rsk1, 12, .inl g1_8)), (rr, .inr (7, [.ref tp, .ref ru, .int 1])), (tp, .inr (9, [.ref tb, .int 0, .int 0, .int 1])), (rs0, .inl (rsk0, 400, .inl g0_10)), (ru, .inr (6, [.ref rs0, .int 1, .ref rs1, .ref rs2, .ref rs3, .int 0, .ref rs4])), (rs2, .inl (rsk2, 12, .inl g2_12))] := hD
  refine lv_aload_n hx hb dX7_read_106 rfl (lv_at hl 2 rfl) ?_
  refine va_get (D := (dC, dI)) (ci := 7) (v := .ref tp) (C := RX7) (T := TX7) (N := 3) hx hb hts iX7 hown hK hP 2 rfl rfl 0 (by decide) (hts _ tw_166) (fun _ h9 => h9) rfl dX7_read_107 ?_
  refine va_ldcS hx hb hown hR.2.2.2 dX7_read_110 ?_
  have hPc := hP.sub (ws' := [(tp, .inr (9, [.ref tb, .int 0, .int 0, .int 1]))]) [3] rfl
  have hDc := hD.sub (ws' := [(tp, .inr (9, [.ref tb, .int 0, .int 0, .int 1]))]) [3] (by decide) rfl
  have hKc := hK.sub (tys' := []) [] rfl
  have hFc := va_free (wc := [(tp, .inr (9, [.ref tb, .int 0, .int 0, .int 1]))]) hD hS hA [3] rfl
  refine va_calli (va_runV (As := [.ref (aK 3)]) (rest := []) ⟨hx, hb, hml, hown, hts⟩ (c_takeWord_3 l dC dI aK aV tp tb  H.size) (cwV 1 hts (gUV tw_643 tw_506 tw_507 tw_2 tw_508) rfl rfl rfl (by decide +kernel) ⟨(Nat.le_of_ble_eq_true rfl), (Nat.le_of_ble_eq_true rfl)⟩) ⟨cPreS.blind, va_recv hKc hPc (ci := 9) (q0 := 0) rfl rfl, cPreS.use hPc hKc hDc hE hStr hR hS hFc⟩ rfl rfl hl.1 rfl (lv_room (Nat.le_of_ble_eq_true rfl)) dX7_read_112 ⟨(Nat.le_of_ble_eq_true rfl), (Nat.le_of_ble_eq_true rfl)⟩) hS (fun q _ h => hFc q h) hFc (fun r_13 u t H1 locs ht hvm hw hB hz1 hk1 hS => ?_)
  obtain ⟨hP1, hK1, hD1⟩ := hB
  rw [ht] at hP1
  obtain ⟨hP, hD⟩ := va_join (wr := [(rs3, .inl (rsk3, 12, .inl f3)), (rs1, .inl (rsk1, 12, .inl g1_8)), (rr, .inr (7, [.ref tp, .ref ru, .int 1])), (rs0, .inl (rsk0, 400, .inl g0_10)), (ru, .inr (6, [.ref rs0, .int 1, .ref rs1, .ref rs2, .ref rs3, .int 0, .ref rs4])), (rs2, .inl (rsk2, 12, .inl g2_12))]) (w1 := [(tp, .inr (9, [.ref tb, .int 0, .int 0, .int 1]))]) hP hD [3] [0, 1, 2, 4, 5, 6] rfl rfl (by decide) (by decide) hk1 hFc hP1 hD1
  generalize H1 = H at hP hS ⊢
  have hP : va_P (dC, dI) vwCl [(rs3, .inl (rsk3, 12, .inl f3)), (rs1, .inl (rsk1, 12, .inl g1_8)), (rr, .inr (7, [.ref tp, .ref ru, .int 1])), (rs0, .inl (rsk0, 400, .inl g0_10)), (ru, .inr (6, [.ref rs0, .int 1, .ref rs1, .ref rs2, .ref rs3, .int 0, .ref rs4])), (rs2, .inl (rsk2, 12, .inl g2_12)), (tp, .inr (9, [.ref tb, .int 0, .int 0, .int 1]))] H := hP
  have hD : va_D A [(rs3, .inl (rsk3, 12, .inl f3)), (rs1, .inl (rsk1, 12, .inl g1_8)), (rr, .inr (7, [.ref tp, .ref ru, .int 1])), (rs0, .inl (rsk0, 400, .inl g0_10)), (ru, .inr (6, [.ref rs0, .int 1, .ref rs1, .ref rs2, .ref rs3, .int 0, .ref rs4])), (rs2, .inl (rsk2, 12, .inl g2_12)), (tp, .inr (9, [.ref tb, .int 0, .int 0, .int 1]))] := hD
  obtain rfl : r_13 = (-1) := hw
  refine lv_iconst (v := (-1)) hx hb dX7_read_115 (by decide) ?_
  refine lv_icmp_eq (tgt := 124) hx hb dX7_read_116 (by decide) (fun c_14 => ?_) (fun c_14 => absurd (by decide) c_14)
  refine lv_aload_n hx hb dX7_read_124 rfl (lv_at hl 2 rfl) ?_
  refine va_get (D := (dC, dI)) (ci := 7) (v := .ref ru) (C := RX7) (T := TX7) (N := 3) hx hb hts iX7 hown hK hP 2 rfl rfl 1 (by decide) (hts _ tw_167) (fun _ h9 => h9) rfl dX7_read_125 ?_
  have hPc := hP.sub (ws' := [(ru, .inr (6, [.ref rs0, .int 1, .ref rs1, .ref rs2, .ref rs3, .int 0, .ref rs4])), (rs3, .inl (rsk3, 12, .inl f3))]) [4, 0] rfl
  have hDc := hD.sub (ws' := [(ru, .inr (6, [.ref rs0, .int 1, .ref rs1, .ref rs2, .ref rs3, .int 0, .ref rs4])), (rs3, .inl (rsk3, 12, .inl f3))]) [4, 0] (by decide) rfl
  have hKc := hK.sub (tys' := [(rsk3, .int)]) [3] rfl
  have hFc := va_free (wc := [(ru, .inr (6, [.ref rs0, .int 1, .ref rs1, .ref rs2, .ref rs3, .int 0, .ref rs4])), (rs3, .inl (rsk3, 12, .inl f3))]) hD hS hA [4, 0] rfl
  refine va_callv (va_runV (As := []) (rest := []) ⟨hx, hb, hml, hown, hts⟩ (c_endClause l dC dI ru rs0 rs1 rs2 rs3 rs4 rsk3 f3  H.size) (cwV 0 hts (gUV tw_697 tw_698 tw_699 tw_6 tw_700) rfl rfl rfl (by decide +kernel) ⟨(Nat.le_of_ble_eq_true rfl), (Nat.le_of_ble_eq_true rfl)⟩) ⟨cPre.blind, va_recv hKc hPc (ci := 6) (q0 := 0) rfl rfl, cPre.use hPc hKc hDc hE⟩ rfl rfl hl.1 rfl (lv_room (Nat.le_of_ble_eq_true rfl)) dX7_read_128 ⟨(Nat.le_of_ble_eq_true rfl), (Nat.le_of_ble_eq_true rfl)⟩) hS (fun q _ h => hFc q h) hFc (fun u t H1 locs ht hvm hw hB hz1 hk1 hS => ?_)
  obtain ⟨hP1, hK1, hD1⟩ := hB
  rw [ht] at hP1
  obtain ⟨hP, hD⟩ := va_join (wr := [(rs1, .inl (rsk1, 12, .inl g1_8)), (rr, .inr (7, [.ref tp, .ref ru, .int 1])), (rs0, .inl (rsk0, 400, .inl g0_10)), (rs2, .inl (rsk2, 12, .inl g2_12)), (tp, .inr (9, [.ref tb, .int 0, .int 0, .int 1]))]) (w1 := [(ru, .inr (6, [.ref rs0, .int 1, .ref rs1, .ref rs2, .ref rs3, .int 1, .ref rs4]))]) hP hD [4, 0] [1, 2, 3, 5, 6] rfl rfl (by decide) (by decide) hk1 hFc hP1 hD1
  generalize H1 = H at hP hS ⊢
  have hP : va_P (dC, dI) vwCl [(rs1, .inl (rsk1, 12, .inl g1_8)), (rr, .inr (7, [.ref tp, .ref ru, .int 1])), (rs0, .inl (rsk0, 400, .inl g0_10)), (rs2, .inl (rsk2, 12, .inl g2_12)), (tp, .inr (9, [.ref tb, .int 0, .int 0, .int 1])), (ru, .inr (6, [.ref rs0, .int 1, .ref rs1, .ref rs2, .ref rs3, .int 1, .ref rs4]))] H := hP
  have hD : va_D A [(rs1, .inl (rsk1, 12, .inl g1_8)), (rr, .inr (7, [.ref tp, .ref ru, .int 1])), (rs0, .inl (rsk0, 400, .inl g0_10)), (rs2, .inl (rsk2, 12, .inl g2_12)), (tp, .inr (9, [.ref tb, .int 0, .int 0, .int 1])), (ru, .inr (6, [.ref rs0, .int 1, .ref rs1, .ref rs2, .ref rs3, .int 1, .ref rs4]))] := hD
  refine lv_aload_n hx hb dX7_read_131 rfl (lv_at hl 2 rfl) ?_
  refine va_get (D := (dC, dI)) (ci := 7) (v := .ref tp) (C := RX7) (T := TX7) (N := 3) hx hb hts iX7 hown hK hP 1 rfl rfl 0 (by decide) (hts _ tw_166) (fun _ h9 => h9) rfl dX7_read_132 ?_
  refine va_get (D := (dC, dI)) (ci := 9) (v := .int 1) (C := RX9) (T := TX9) (N := 4) hx hb hts iX9 hown hK hP 4 rfl rfl 3 (by decide) (hts _ tw_43) (fun _ h9 => h9) rfl dX7_read_135 ?_
  refine lv_if_ne (tgt := 187) hx hb dX7_read_138 (by decide) (fun c_16 => ?_) (fun c_16 => absurd c_16 (by decide))
  refine lv_aload_n hx hb dX7_read_187 rfl (lv_at hl 2 rfl) ?_
  refine va_get (D := (dC, dI)) (ci := 7) (v := .ref tp) (C := RX7) (T := TX7) (N := 3) hx hb hts iX7 hown hK hP 1 rfl rfl 0 (by decide) (hts _ tw_166) (fun _ h9 => h9) rfl dX7_read_188 ?_
  refine va_get (D := (dC, dI)) (ci := 9) (v := .int 1) (C := RX9) (T := TX9) (N := 4) hx hb hts iX9 hown hK hP 4 rfl rfl 3 (by decide) (hts _ tw_43) (fun _ h9 => h9) rfl dX7_read_191 ?_
  refine lv_if_ne (tgt := 201) hx hb dX7_read_194 (by decide) (fun c_17 => ?_) (fun c_17 => absurd c_17 (by decide))
  refine lv_iconst (v := 0) hx hb dX7_read_201 (by decide) ?_
  have hP9 := hP.sub (ws' := [(tp, .inr (9, [.ref tb, .int 0, .int 0, .int 1]))]) [4] rfl
  have hD9 := hD.sub (ws' := [(tp, .inr (9, [.ref tb, .int 0, .int 0, .int 1]))]) [4] (by decide) rfl
  have hK9 := hK.sub (tys' := []) [] rfl
  refine W.widen (k := 0) (n := 0) (Nat.le_of_ble_eq_true rfl) (Nat.le_of_ble_eq_true rfl) ?_
  exact W.zret (v := 0) hx hb hr rfl (fun t ht hW => ⟨⟨0, (), rfl, rfl, ⟨by rw [ht]; exact hP9, va_K.moved hW.alike hK9, hD9⟩⟩, hS.F ht⟩) hS.2.2 dX7_read_202
set_option maxHeartbeats 4000000 in
set_option maxRecDepth 100000 in
theorem c_rule (l : Launch) (dC : Nat → ClassId) (dI : Nat → Nat → Nat) (aK aV : Nat → Nat) (h0 : Nat) (tp : Nat) (cr : Nat) (rr : Nat) (ra : Nat) (nw : Nat) (im : Nat) (ps : Nat) (po : Nat) (dy : Nat) (cn : Nat) (tr : Nat) (rak : ClassId) (ru0 : Nat) (ru1 : Nat) (ru2 : Nat) (ru3 : Nat) (ru4 : Nat) (ru5 : Nat) (rs0 : Nat) (rs1 : Nat) (rs2 : Nat) (rs3 : Nat) (rs4 : Nat) (rsk0 : ClassId) (rsk1 : ClassId) (rsk2 : ClassId) (rsk3 : ClassId) (tb : Nat) (sz : Nat) : Met l yX11_rule (ws_u yX11_rule cX11_rule 1 (some .int)) ({ frames := 6, cells := 0, slots := 0, locals := 135 }) (va_Pc [.ref h0] (cPreS (dC, dI) aK aV [(rak, .object RX6), (rsk0, .int), (rsk1, .int), (rsk2, .int), (rsk3, .int)] [(h0, .inr (11, [.ref tp, .ref cr, .ref rr, .ref ra, .int 0, .ref nw, .ref im, .ref ps, .ref po, .ref dy, .ref cn, .ref tr])), (rr, .inr (7, [.null, .null, .int 0])), (ra, .inl (rak, 6, .inr (.inr (.inr (.inr (va_up (va_up (va_up (va_up (va_up (va_up (fun _ => none) 0 (some ru0)) 1 (some ru1)) 2 (some ru2)) 3 (some ru3)) 4 (some ru4)) 5 (some ru5))))))), (ru0, .inr (6, [.ref rs0, .int 0, .ref rs1, .ref rs2, .ref rs3, .int 0, .ref rs4])), (rs0, .inl (rsk0, 400, .inl (fun _ => 0))), (rs1, .inl (rsk1, 12, .inl (fun _ => 0))), (rs2, .inl (rsk2, 12, .inl (fun _ => 0))), (rs3, .inl (rsk3, 12, .inl (fun _ => 0))), (tp, .inr (9, [.ref tb, .int 0, .int 0, .int 0]))] sz)) (va_Qi (fun (r : Int32) (_ : Unit) => r = (-3)) (fun _ _ => True) (va_A [(h0, .inr (11, [.ref tp, .ref cr, .ref rr, .ref ra, .int 0, .ref nw, .ref im, .ref ps, .ref po, .ref dy, .ref cn, .ref tr])), (rr, .inr (7, [.null, .null, .int 0])), (ra, .inl (rak, 6, .inr (.inr (.inr (.inr (va_up (va_up (va_up (va_up (va_up (va_up (fun _ => none) 0 (some ru0)) 1 (some ru1)) 2 (some ru2)) 3 (some ru3)) 4 (some ru4)) 5 (some ru5))))))), (ru0, .inr (6, [.ref rs0, .int 0, .ref rs1, .ref rs2, .ref rs3, .int 0, .ref rs4])), (rs0, .inl (rsk0, 400, .inl (fun _ => 0))), (rs1, .inl (rsk1, 12, .inl (fun _ => 0))), (rs2, .inl (rsk2, 12, .inl (fun _ => 0))), (rs3, .inl (rsk3, 12, .inl (fun _ => 0))), (tp, .inr (9, [.ref tb, .int 0, .int 0, .int 0]))] sz)) 0 0 (va_A [(h0, .inr (11, [.ref tp, .ref cr, .ref rr, .ref ra, .int 0, .ref nw, .ref im, .ref ps, .ref po, .ref dy, .ref cn, .ref tr])), (rr, .inr (7, [.null, .null, .int 0])), (ra, .inl (rak, 6, .inr (.inr (.inr (.inr (va_up (va_up (va_up (va_up (va_up (va_up (fun _ => none) 0 (some ru0)) 1 (some ru1)) 2 (some ru2)) 3 (some ru3)) 4 (some ru4)) 5 (some ru5))))))), (ru0, .inr (6, [.ref rs0, .int 0, .ref rs1, .ref rs2, .ref rs3, .int 0, .ref rs4])), (rs0, .inl (rsk0, 400, .inl (fun _ => 0))), (rs1, .inl (rsk1, 12, .inl (fun _ => 0))), (rs2, .inl (rsk2, 12, .inl (fun _ => 0))), (rs3, .inl (rsk3, 12, .inl (fun _ => 0))), (tp, .inr (9, [.ref tb, .int 0, .int 0, .int 0]))] sz) := by
  refine Met.ofW (cc := cX11_rule) (maxL := 1) (ret := (some .int)) (by decide) rfl ?_
  intro p e s m args below meth c s₁ B hml hv
  obtain ⟨rfl, ⟨hsz, hP, hK, hD0, hE⟩, hStr, hR⟩ := hv
  have hx := B.exec
  have hb := B.bytes
  have hr := B.returns
  have hts0 := atoms_spec (ws := ws_u yX11_rule cX11_rule 1 (some .int)) B.pre
  have hts : ∀ w ∈ gT, w.before _ s = true := fun w h => hts0 w (List.mem_cons_of_mem _ h)
  have hown : s.vm.findClass RX11 = some m.cls := findClass_of_methodNamed B.named
  have hlocks := B.notSynchronized
  subst hsz
  have hD := hD0.self (sz := s.heap.size)
  generalize hAe : va_A [(h0, .inr (11, [.ref tp, .ref cr, .ref rr, .ref ra, .int 0, .ref nw, .ref im, .ref ps, .ref po, .ref dy, .ref cn, .ref tr])), (rr, .inr (7, [.null, .null, .int 0])), (ra, .inl (rak, 6, .inr (.inr (.inr (.inr (va_up (va_up (va_up (va_up (va_up (va_up (fun _ => none) 0 (some ru0)) 1 (some ru1)) 2 (some ru2)) 3 (some ru3)) 4 (some ru4)) 5 (some ru5))))))), (ru0, .inr (6, [.ref rs0, .int 0, .ref rs1, .ref rs2, .ref rs3, .int 0, .ref rs4])), (rs0, .inl (rsk0, 400, .inl (fun _ => 0))), (rs1, .inl (rsk1, 12, .inl (fun _ => 0))), (rs2, .inl (rsk2, 12, .inl (fun _ => 0))), (rs3, .inl (rsk3, 12, .inl (fun _ => 0))), (tp, .inr (9, [.ref tb, .int 0, .int 0, .int 0]))] s.heap.size = A at hD hStr ⊢
  have hA : ∀ q : Nat, s.heap.size ≤ q → A q := fun q h => by rw [← hAe]; exact Or.inr h
  have hS : va_S A s.heap s.heap [] := va_S.rf
  have hl := lv_entry ([.ref h0]) (n := 1) (Nat.le_of_ble_eq_true rfl)
  rw [lg_entry_eq]
  generalize (lg_sl ([.ref h0]) ++ List.replicate (1 - (lg_sl ([.ref h0])).length) Slot.unset).toArray = ls at hl ⊢
  have hl : lv_has ls 1 [(0, .ref h0)] := hl
  have hP : va_P (dC, dI) vwCl [(h0, .inr (11, [.ref tp, .ref cr, .ref rr, .ref ra, .int 0, .ref nw, .ref im, .ref ps, .ref po, .ref dy, .ref cn, .ref tr])), (rr, .inr (7, [.null, .null, .int 0])), (ra, .inl (rak, 6, .inr (.inr (.inr (.inr (va_up (va_up (va_up (va_up (va_up (va_up (fun _ => none) 0 (some ru0)) 1 (some ru1)) 2 (some ru2)) 3 (some ru3)) 4 (some ru4)) 5 (some ru5))))))), (ru0, .inr (6, [.ref rs0, .int 0, .ref rs1, .ref rs2, .ref rs3, .int 0, .ref rs4])), (rs0, .inl (rsk0, 400, .inl (fun _ => 0))), (rs1, .inl (rsk1, 12, .inl (fun _ => 0))), (rs2, .inl (rsk2, 12, .inl (fun _ => 0))), (rs3, .inl (rsk3, 12, .inl (fun _ => 0))), (tp, .inr (9, [.ref tb, .int 0, .int 0, .int 0]))] s.heap := hP
  try clear hAe
  refine lv_aload_n hx hb dX11_rule_0 rfl (lv_at hl 0 rfl) ?_
  refine va_get (D := (dC, dI)) (ci := 11) (v := .int 0) (C := RX11) (T := TX11) (N := 12) hx hb hts iX11 hown hK hP 0 rfl rfl 4 (by decide) (hts _ tw_427) (fun _ h9 => h9) rfl dX11_rule_1 ?_
  refine lv_bipush (v := 6) hx hb dX11_rule_4 (by decide) ?_
  refine lv_icmp_lt (tgt := 11) hx hb dX11_rule_6 (by decide) (fun c_1 => ?_) (fun c_1 => absurd (by decide) c_1)
  refine lv_aload_n hx hb dX11_rule_11 rfl (lv_at hl 0 rfl) ?_
  refine va_get (D := (dC, dI)) (ci := 11) (v := .ref rr) (C := RX11) (T := TX11) (N := 12) hx hb hts iX11 hown hK hP 0 rfl rfl 2 (by decide) (hts _ tw_425) (fun _ h9 => h9) rfl dX11_rule_12 ?_
  refine lv_aload_n hx hb dX11_rule_15 rfl (lv_at hl 0 rfl) ?_
  refine va_get (D := (dC, dI)) (ci := 11) (v := .ref tp) (C := RX11) (T := TX11) (N := 12) hx hb hts iX11 hown hK hP 0 rfl rfl 0 (by decide) (hts _ tw_423) (fun _ h9 => h9) rfl dX11_rule_16 ?_
  refine lv_aload_n hx hb dX11_rule_19 rfl (lv_at hl 0 rfl) ?_
  refine va_get (D := (dC, dI)) (ci := 11) (v := .ref ra) (C := RX11) (T := TX11) (N := 12) hx hb hts iX11 hown hK hP 0 rfl rfl 3 (by decide) (hts _ tw_426) (fun _ h9 => h9) rfl dX11_rule_20 ?_
  refine lv_aload_n hx hb dX11_rule_23 rfl (lv_at hl 0 rfl) ?_
  refine va_get (D := (dC, dI)) (ci := 11) (v := .int 0) (C := RX11) (T := TX11) (N := 12) hx hb hts iX11 hown hK hP 0 rfl rfl 4 (by decide) (hts _ tw_427) (fun _ h9 => h9) rfl dX11_rule_24 ?_
  refine va_aldq hx hb hK hP 2 0 rfl rfl (show vp_in 0 6 from (by decide : ¬ ((0 : Int32) < 0 ∨ 6 ≤ (0 : Int32).toNatClampNeg))) dX11_rule_27 ?_
  refine W.eq (g2 := F0 m 28 ls [.ref ru0, .ref tp, .ref rr]) rfl ?_
  have hPc := hP.sub (ws' := [(rr, .inr (7, [.null, .null, .int 0])), (tp, .inr (9, [.ref tb, .int 0, .int 0, .int 0])), (ru0, .inr (6, [.ref rs0, .int 0, .ref rs1, .ref rs2, .ref rs3, .int 0, .ref rs4])), (rs0, .inl (rsk0, 400, .inl (fun _ => 0))), (rs1, .inl (rsk1, 12, .inl (fun _ => 0))), (rs2, .inl (rsk2, 12, .inl (fun _ => 0))), (rs3, .inl (rsk3, 12, .inl (fun _ => 0)))]) [1, 8, 3, 4, 5, 6, 7] rfl
  have hDc := hD.sub (ws' := [(rr, .inr (7, [.null, .null, .int 0])), (tp, .inr (9, [.ref tb, .int 0, .int 0, .int 0])), (ru0, .inr (6, [.ref rs0, .int 0, .ref rs1, .ref rs2, .ref rs3, .int 0, .ref rs4])), (rs0, .inl (rsk0, 400, .inl (fun _ => 0))), (rs1, .inl (rsk1, 12, .inl (fun _ => 0))), (rs2, .inl (rsk2, 12, .inl (fun _ => 0))), (rs3, .inl (rsk3, 12, .inl (fun _ => 0)))]) [1, 8, 3, 4, 5, 6, 7] (by decide) rfl
  have hKc := hK.sub (tys' := [(rsk0, .int), (rsk1, .int), (rsk2, .int), (rsk3, .int)]) [1, 2, 3, 4] rfl
  have hFc := va_free (wc := [(rr, .inr (7, [.null, .null, .int 0])), (tp, .inr (9, [.ref tb, .int 0, .int 0, .int 0])), (ru0, .inr (6, [.ref rs0, .int 0, .ref rs1, .ref rs2, .ref rs3, .int 0, .ref rs4])), (rs0, .inl (rsk0, 400, .inl (fun _ => 0))), (rs1, .inl (rsk1, 12, .inl (fun _ => 0))), (rs2, .inl (rsk2, 12, .inl (fun _ => 0))), (rs3, .inl (rsk3, 12, .inl (fun _ => 0)))]) hD hS hA [1, 8, 3, 4, 5, 6, 7] rfl
  refine va_calli (va_runV (As := [.ref tp, .ref ru0]) (rest := []) ⟨hx, hb, hml, hown, hts⟩ (c_rread l dC dI aK aV rr tp tb ru0 rs0 rs1 rs2 rs3 rs4 rsk0 rsk1 rsk2 rsk3 (fun _ => 0) (fun _ => 0) (fun _ => 0) (fun _ => 0)  s.heap.size) (cwV 2 hts (gUV tw_633 tw_634 tw_635 tw_5 tw_636) rfl rfl rfl (by decide +kernel) ⟨(Nat.le_of_ble_eq_true rfl), (Nat.le_of_ble_eq_true rfl)⟩) ⟨cPreS.blind, va_recv hKc hPc (ci := 7) (q0 := 0) rfl rfl, cPreS.use hPc hKc hDc hE hStr hR hS hFc⟩ rfl rfl hl.1 rfl (lv_room (Nat.le_of_ble_eq_true rfl)) dX11_rule_28 ⟨(Nat.le_of_ble_eq_true rfl), (Nat.le_of_ble_eq_true rfl)⟩) hS (fun q _ h => hFc q h) hFc (fun r_2 u t H1 locs ht hvm hw hB hz1 hk1 hS => ?_)
  obtain ⟨hP1, hK1, hD1⟩ := hB
  rw [ht] at hP1
  obtain ⟨hP, hD⟩ := va_join (wr := [(h0, .inr (11, [.ref tp, .ref cr, .ref rr, .ref ra, .int 0, .ref nw, .ref im, .ref ps, .ref po, .ref dy, .ref cn, .ref tr])), (ra, .inl (rak, 6, .inr (.inr (.inr (.inr (va_up (va_up (va_up (va_up (va_up (va_up (fun _ => none) 0 (some ru0)) 1 (some ru1)) 2 (some ru2)) 3 (some ru3)) 4 (some ru4)) 5 (some ru5)))))))]) (w1 := [(tp, .inr (9, [.ref tb, .int 0, .int 0, .int 1]))]) hP hD [1, 8, 3, 4, 5, 6, 7] [0, 2] rfl rfl (by decide) (by decide) hk1 hFc hP1 hD1
  generalize H1 = H at hP hS ⊢
  have hP : va_P (dC, dI) vwCl [(h0, .inr (11, [.ref tp, .ref cr, .ref rr, .ref ra, .int 0, .ref nw, .ref im, .ref ps, .ref po, .ref dy, .ref cn, .ref tr])), (ra, .inl (rak, 6, .inr (.inr (.inr (.inr (va_up (va_up (va_up (va_up (va_up (va_up (fun _ => none) 0 (some ru0)) 1 (some ru1)) 2 (some ru2)) 3 (some ru3)) 4 (some ru4)) 5 (some ru5))))))), (tp, .inr (9, [.ref tb, .int 0, .int 0, .int 1]))] H := hP
  have hD : va_D A [(h0, .inr (11, [.ref tp, .ref cr, .ref rr, .ref ra, .int 0, .ref nw, .ref im, .ref ps, .ref po, .ref dy, .ref cn, .ref tr])), (ra, .inl (rak, 6, .inr (.inr (.inr (.inr (va_up (va_up (va_up (va_up (va_up (va_up (fun _ => none) 0 (some ru0)) 1 (some ru1)) 2 (some ru2)) 3 (some ru3)) 4 (some ru4)) 5 (some ru5))))))), (tp, .inr (9, [.ref tb, .int 0, .int 0, .int 1]))] := hD
  obtain rfl : r_2 = 0 := hw
  refine lv_if_ne (tgt := 45) hx hb dX11_rule_31 (by decide) (fun c_3 => absurd (by decide) c_3) (fun c_3 => ?_)
  refine lv_bipush (v := (-2)) hx hb dX11_rule_34 (by decide) ?_
  refine lv_aload_n hx hb dX11_rule_36 rfl (lv_at hl 0 rfl) ?_
  refine va_get (D := (dC, dI)) (ci := 11) (v := .ref tp) (C := RX11) (T := TX11) (N := 12) hx hb hts iX11 hown hK hP 0 rfl rfl 0 (by decide) (hts _ tw_423) (fun _ h9 => h9) rfl dX11_rule_37 ?_
  refine va_get (D := (dC, dI)) (ci := 9) (v := .int 1) (C := RX9) (T := TX9) (N := 4) hx hb hts iX9 hown hK hP 2 rfl rfl 3 (by decide) (hts _ tw_45) (fun _ h9 => h9) rfl dX11_rule_40 ?_
  refine lv_isub hx hb dX11_rule_43 ?_
  refine lv_topi (fun x_4 ex_4 => ?_)
  obtain rfl : x_4 = (-3) := ex_4.trans (by decide)
  refine W.widen (k := 0) (n := 0) (Nat.le_of_ble_eq_true rfl) (Nat.le_of_ble_eq_true rfl) ?_
  exact W.iret (v := (-3)) hx hb hr (fun t ht hW => ⟨⟨(-3), (), rfl, rfl, trivial⟩, hS.F ht⟩) hS.2.2 dX11_rule_44
