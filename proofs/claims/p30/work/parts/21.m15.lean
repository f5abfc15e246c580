theorem ts_0_11 : Cond.selects "BoyBishop$RuleReader" ⟨"BoyBishop$RuleReader", "takeStep", "()I"⟩ ⟨"BoyBishop$RuleReader", "takeStep", "()I"⟩ ∈ gT := gT_in (List.mem_append_left _ (List.mem_map.mpr ⟨(⟨"BoyBishop$RuleReader", "takeStep", "()I"⟩, 3), (List.mem_append_left _ (List.mem_of_getElem? (i := 11) rfl)), rfl⟩)) rfl
theorem ts_0_12 : Cond.selects "BoyBishop$RuleReader" ⟨"BoyBishop$RuleReader", "readTest", "(I)V"⟩ ⟨"BoyBishop$RuleReader", "readTest", "(I)V"⟩ ∈ gT := gT_in (List.mem_append_left _ (List.mem_map.mpr ⟨(⟨"BoyBishop$RuleReader", "readTest", "(I)V"⟩, 3), (List.mem_append_left _ (List.mem_of_getElem? (i := 12) rfl)), rfl⟩)) rfl
theorem ts_0_13 : Cond.selects "BoyBishop$RuleReader" ⟨"BoyBishop$RuleReader", "readFact", "(I)V"⟩ ⟨"BoyBishop$RuleReader", "readFact", "(I)V"⟩ ∈ gT := gT_in (List.mem_append_left _ (List.mem_map.mpr ⟨(⟨"BoyBishop$RuleReader", "readFact", "(I)V"⟩, 3), (List.mem_append_left _ (List.mem_of_getElem? (i := 13) rfl)), rfl⟩)) rfl
theorem ts_0_14 : Cond.selects "BoyBishop$RuleReader" ⟨"BoyBishop$RuleReader", "readSign", "()I"⟩ ⟨"BoyBishop$RuleReader", "readSign", "()I"⟩ ∈ gT := gT_in (List.mem_append_left _ (List.mem_map.mpr ⟨(⟨"BoyBishop$RuleReader", "readSign", "()I"⟩, 3), (List.mem_append_left _ (List.mem_of_getElem? (i := 14) rfl)), rfl⟩)) rfl
theorem ts_0_8 : Cond.selects "BoyBishop$RuleReader" ⟨"BoyBishop$RuleReader", "readSum", "()V"⟩ ⟨"BoyBishop$RuleReader", "readSum", "()V"⟩ ∈ gT := gT_in (List.mem_append_left _ (List.mem_map.mpr ⟨(⟨"BoyBishop$RuleReader", "readSum", "()V"⟩, 3), (List.mem_append_left _ (List.mem_of_getElem? (i := 8) rfl)), rfl⟩)) rfl
theorem ts_0_9 : Cond.selects "BoyBishop$RuleReader" ⟨"BoyBishop$RuleReader", "readValue", "()V"⟩ ⟨"BoyBishop$RuleReader", "readValue", "()V"⟩ ∈ gT := gT_in (List.mem_append_left _ (List.mem_map.mpr ⟨(⟨"BoyBishop$RuleReader", "readValue", "()V"⟩, 3), (List.mem_append_left _ (List.mem_of_getElem? (i := 9) rfl)), rfl⟩)) rfl
theorem tw_603 : (Jvm.Cond.instanceMethod ({ cls := "BoyBishop$Tape", name := "takeSign", desc := "(C)Z" } : Jvm.MethodName)) ∈ gT := gT_in (List.mem_append_right _ (List.mem_append_right _ (List.mem_append_right _ (List.mem_append_left _ (List.mem_of_getElem? (i := 123) rfl))))) rfl
theorem tw_604 : (Jvm.Cond.selects "BoyBishop$Tape" ({ cls := "BoyBishop$Tape", name := "takeSign", desc := "(C)Z" } : Jvm.MethodName) ({ cls := "BoyBishop$Tape", name := "takeSign", desc := "(C)Z" } : Jvm.MethodName)) ∈ gT := gT_in (List.mem_append_right _ (List.mem_append_right _ (List.mem_append_right _ (List.mem_append_left _ (List.mem_of_getElem? (i := 124) rfl))))) rfl
theorem tw_605 : (Jvm.Cond.code ({ cls := "BoyBishop$Tape", name := "takeSign", desc := "(C)Z" } : Jvm.MethodName) prog_11_method_9_code (3 : Nat) (Option.some Jvm.ClassFile.FieldType.boolean)) ∈ gT := gT_in (List.mem_append_right _ (List.mem_append_right _ (List.mem_append_right _ (List.mem_append_left _ (List.mem_of_getElem? (i := 125) rfl))))) rfl
theorem tw_649 : (Jvm.Cond.methodLink "BoyBishop$RuleReader" (49 : Nat) ({ cls := "BoyBishop$RuleReader", name := "readSum", desc := "()V" } : Jvm.MethodName)) ∈ gT := gT_in (List.mem_append_right _ (List.mem_append_right _ (List.mem_append_right _ (List.mem_append_left _ (List.mem_of_getElem? (i := 169) rfl))))) rfl
theorem tw_651 : (Jvm.Cond.instanceMethod ({ cls := "BoyBishop$RuleReader", name := "readSum", desc := "()V" } : Jvm.MethodName)) ∈ gT := gT_in (List.mem_append_right _ (List.mem_append_right _ (List.mem_append_right _ (List.mem_append_left _ (List.mem_of_getElem? (i := 171) rfl))))) rfl
theorem tw_652 : (Jvm.Cond.code ({ cls := "BoyBishop$RuleReader", name := "readSum", desc := "()V" } : Jvm.MethodName) prog_9_method_6_code (5 : Nat) (Option.none : Option Jvm.ClassFile.FieldType)) ∈ gT := gT_in (List.mem_append_right _ (List.mem_append_right _ (List.mem_append_right _ (List.mem_append_left _ (List.mem_of_getElem? (i := 172) rfl))))) rfl
theorem tw_653 : (Jvm.Cond.methodLink "BoyBishop$RuleReader" (96 : Nat) ({ cls := "BoyBishop$RuleReader", name := "readValue", desc := "()V" } : Jvm.MethodName)) ∈ gT := gT_in (List.mem_append_right _ (List.mem_append_right _ (List.mem_append_right _ (List.mem_append_left _ (List.mem_of_getElem? (i := 173) rfl))))) rfl
theorem tw_655 : (Jvm.Cond.instanceMethod ({ cls := "BoyBishop$RuleReader", name := "readValue", desc := "()V" } : Jvm.MethodName)) ∈ gT := gT_in (List.mem_append_right _ (List.mem_append_right _ (List.mem_append_right _ (List.mem_append_left _ (List.mem_of_getElem? (i := 175) rfl))))) rfl
theorem tw_656 : (Jvm.Cond.code ({ cls := "BoyBishop$RuleReader", name := "readValue", desc := "()V" } : Jvm.MethodName) prog_9_method_8_code (3 : Nat) (Option.none : Option Jvm.ClassFile.FieldType)) ∈ gT := gT_in (List.mem_append_right _ (List.mem_append_right _ (List.mem_append_right _ (List.mem_append_left _ (List.mem_of_getElem? (i := 176) rfl))))) rfl
theorem tw_669 : (Jvm.Cond.methodLink "BoyBishop$RuleReader" (99 : Nat) ({ cls := "BoyBishop$RuleReader", name := "takeStep", desc := "()I" } : Jvm.MethodName)) ∈ gT := gT_in (List.mem_append_right _ (List.mem_append_right _ (List.mem_append_right _ (List.mem_append_left _ (List.mem_of_getElem? (i := 189) rfl))))) rfl
theorem tw_671 : (Jvm.Cond.instanceMethod ({ cls := "BoyBishop$RuleReader", name := "takeStep", desc := "()I" } : Jvm.MethodName)) ∈ gT := gT_in (List.mem_append_right _ (List.mem_append_right _ (List.mem_append_right _ (List.mem_append_left _ (List.mem_of_getElem? (i := 191) rfl))))) rfl
theorem tw_672 : (Jvm.Cond.code ({ cls := "BoyBishop$RuleReader", name := "takeStep", desc := "()I" } : Jvm.MethodName) prog_9_method_7_code (1 : Nat) (Option.some Jvm.ClassFile.FieldType.int)) ∈ gT := gT_in (List.mem_append_right _ (List.mem_append_right _ (List.mem_append_right _ (List.mem_append_left _ (List.mem_of_getElem? (i := 192) rfl))))) rfl
theorem tw_673 : (Jvm.Cond.methodLink "BoyBishop$RuleReader" (71 : Nat) ({ cls := "BoyBishop$Tape", name := "takeSign", desc := "(C)Z" } : Jvm.MethodName)) ∈ gT := gT_in (List.mem_append_right _ (List.mem_append_right _ (List.mem_append_right _ (List.mem_append_left _ (List.mem_of_getElem? (i := 193) rfl))))) rfl
theorem tw_679 : (Jvm.Cond.methodLink "BoyBishop$RuleReader" (57 : Nat) ({ cls := "BoyBishop$RuleReader", name := "readTest", desc := "(I)V" } : Jvm.MethodName)) ∈ gT := gT_in (List.mem_append_right _ (List.mem_append_right _ (List.mem_append_right _ (List.mem_append_left _ (List.mem_of_getElem? (i := 199) rfl))))) rfl
theorem tw_681 : (Jvm.Cond.instanceMethod ({ cls := "BoyBishop$RuleReader", name := "readTest", desc := "(I)V" } : Jvm.MethodName)) ∈ gT := gT_in (List.mem_append_right _ (List.mem_append_right _ (List.mem_append_right _ (List.mem_append_left _ (List.mem_of_getElem? (i := 201) rfl))))) rfl
theorem tw_682 : (Jvm.Cond.code ({ cls := "BoyBishop$RuleReader", name := "readTest", desc := "(I)V" } : Jvm.MethodName) prog_9_method_3_code (5 : Nat) (Option.none : Option Jvm.ClassFile.FieldType)) ∈ gT := gT_in (List.mem_append_right _ (List.mem_append_right _ (List.mem_append_right _ (List.mem_append_left _ (List.mem_of_getElem? (i := 202) rfl))))) rfl
theorem tw_683 : (Jvm.Cond.methodLink "BoyBishop$RuleReader" (75 : Nat) ({ cls := "BoyBishop$RuleReader", name := "readFact", desc := "(I)V" } : Jvm.MethodName)) ∈ gT := gT_in (List.mem_append_right _ (List.mem_append_right _ (List.mem_append_right _ (List.mem_append_left _ (List.mem_of_getElem? (i := 203) rfl))))) rfl
theorem tw_685 : (Jvm.Cond.instanceMethod ({ cls := "BoyBishop$RuleReader", name := "readFact", desc := "(I)V" } : Jvm.MethodName)) ∈ gT := gT_in (List.mem_append_right _ (List.mem_append_right _ (List.mem_append_right _ (List.mem_append_left _ (List.mem_of_getElem? (i := 205) rfl))))) rfl
theorem tw_686 : (Jvm.Cond.code ({ cls := "BoyBishop$RuleReader", name := "readFact", desc := "(I)V" } : Jvm.MethodName) prog_9_method_4_code (6 : Nat) (Option.none : Option Jvm.ClassFile.FieldType)) ∈ gT := gT_in (List.mem_append_right _ (List.mem_append_right _ (List.mem_append_right _ (List.mem_append_left _ (List.mem_of_getElem? (i := 206) rfl))))) rfl
theorem tw_688 : (Jvm.Cond.methodLink "BoyBishop$RuleReader" (85 : Nat) ({ cls := "BoyBishop$RuleReader", name := "readSign", desc := "()I" } : Jvm.MethodName)) ∈ gT := gT_in (List.mem_append_right _ (List.mem_append_right _ (List.mem_append_right _ (List.mem_append_left _ (List.mem_of_getElem? (i := 208) rfl))))) rfl
theorem tw_690 : (Jvm.Cond.instanceMethod ({ cls := "BoyBishop$RuleReader", name := "readSign", desc := "()I" } : Jvm.MethodName)) ∈ gT := gT_in (List.mem_append_right _ (List.mem_append_right _ (List.mem_append_right _ (List.mem_append_left _ (List.mem_of_getElem? (i := 210) rfl))))) rfl
theorem tw_691 : (Jvm.Cond.code ({ cls := "BoyBishop$RuleReader", name := "readSign", desc := "()I" } : Jvm.MethodName) prog_9_method_5_code (3 : Nat) (Option.some Jvm.ClassFile.FieldType.int)) ∈ gT := gT_in (List.mem_append_right _ (List.mem_append_right _ (List.mem_append_right _ (List.mem_append_left _ (List.mem_of_getElem? (i := 211) rfl))))) rfl
theorem tw_692 : (Jvm.Cond.methodLink "BoyBishop$RuleReader" (89 : Nat) ({ cls := "BoyBishop$Tape", name := "takeTwoSigns", desc := "(CC)Z" } : Jvm.MethodName)) ∈ gT := gT_in (List.mem_append_right _ (List.mem_append_right _ (List.mem_append_right _ (List.mem_append_left _ (List.mem_of_getElem? (i := 212) rfl))))) rfl
theorem tw_693 : (Jvm.Cond.instanceMethod ({ cls := "BoyBishop$Tape", name := "takeTwoSigns", desc := "(CC)Z" } : Jvm.MethodName)) ∈ gT := gT_in (List.mem_append_right _ (List.mem_append_right _ (List.mem_append_right _ (List.mem_append_left _ (List.mem_of_getElem? (i := 213) rfl))))) rfl
theorem tw_694 : (Jvm.Cond.selects "BoyBishop$Tape" ({ cls := "BoyBishop$Tape", name := "takeTwoSigns", desc := "(CC)Z" } : Jvm.MethodName) ({ cls := "BoyBishop$Tape", name := "takeTwoSigns", desc := "(CC)Z" } : Jvm.MethodName)) ∈ gT := gT_in (List.mem_append_right _ (List.mem_append_right _ (List.mem_append_right _ (List.mem_append_left _ (List.mem_of_getElem? (i := 214) rfl))))) rfl
theorem tw_695 : (Jvm.Cond.code ({ cls := "BoyBishop$Tape", name := "takeTwoSigns", desc := "(CC)Z" } : Jvm.MethodName) prog_11_method_10_code (4 : Nat) (Option.some Jvm.ClassFile.FieldType.boolean)) ∈ gT := gT_in (List.mem_append_right _ (List.mem_append_right _ (List.mem_append_right _ (List.mem_append_left _ (List.mem_of_getElem? (i := 215) rfl))))) rfl
theorem dX7_readFact_0 : decode cX7_readFact 0 = .ok (.aload_n 0, 1) := by decide +kernel
theorem dX7_readFact_1 : decode cX7_readFact 1 = .ok (.getfield 9, 3) := by decide +kernel
theorem dX7_readFact_4 : decode cX7_readFact 4 = .ok (.getfield 33, 3) := by decide +kernel
theorem dX7_readFact_7 : decode cX7_readFact 7 = .ok (.istore_n 2, 1) := by decide +kernel
theorem dX7_readFact_8 : decode cX7_readFact 8 = .ok (.aload_n 0, 1) := by decide +kernel
theorem dX7_readFact_9 : decode cX7_readFact 9 = .ok (.getfield 9, 3) := by decide +kernel
theorem dX7_readFact_12 : decode cX7_readFact 12 = .ok (.ldc 83, 2) := by decide +kernel
theorem dX7_readFact_14 : decode cX7_readFact 14 = .ok (.invokevirtual 38, 3) := by decide +kernel
theorem dX7_readFact_17 : decode cX7_readFact 17 = .ok (.iconst (-1), 1) := by decide +kernel
theorem dX7_readFact_18 : decode cX7_readFact 18 = .ok (.if_icmp .eq 7, 3) := by decide +kernel
theorem dX7_readFact_21 : decode cX7_readFact 21 = .ok (.iconst 1, 1) := by decide +kernel
theorem dX7_readFact_22 : decode cX7_readFact 22 = .ok (.goto 4, 3) := by decide +kernel
theorem dX7_readFact_25 : decode cX7_readFact 25 = .ok (.iconst 0, 1) := by decide +kernel
theorem dX7_readFact_26 : decode cX7_readFact 26 = .ok (.istore_n 3, 1) := by decide +kernel
theorem dX7_readFact_27 : decode cX7_readFact 27 = .ok (.iload_n 3, 1) := by decide +kernel
theorem dX7_readFact_28 : decode cX7_readFact 28 = .ok (.ifCond .ne 19, 3) := by decide +kernel
theorem dX7_readFact_31 : decode cX7_readFact 31 = .ok (.aload_n 0, 1) := by decide +kernel
theorem dX7_readFact_32 : decode cX7_readFact 32 = .ok (.getfield 9, 3) := by decide +kernel
theorem dX7_readFact_35 : decode cX7_readFact 35 = .ok (.bipush 91, 2) := by decide +kernel
theorem dX7_readFact_37 : decode cX7_readFact 37 = .ok (.invokevirtual 71, 3) := by decide +kernel
theorem dX7_readFact_40 : decode cX7_readFact 40 = .ok (.ifCond .eq 7, 3) := by decide +kernel
theorem dX7_readFact_43 : decode cX7_readFact 43 = .ok (.iconst 1, 1) := by decide +kernel
theorem dX7_readFact_44 : decode cX7_readFact 44 = .ok (.goto 4, 3) := by decide +kernel
theorem dX7_readFact_47 : decode cX7_readFact 47 = .ok (.iconst 0, 1) := by decide +kernel
theorem dX7_readFact_48 : decode cX7_readFact 48 = .ok (.istore 4, 2) := by decide +kernel
theorem dX7_readFact_50 : decode cX7_readFact 50 = .ok (.iload_n 3, 1) := by decide +kernel
theorem dX7_readFact_51 : decode cX7_readFact 51 = .ok (.ifCond .ne 8, 3) := by decide +kernel
theorem dX7_readFact_54 : decode cX7_readFact 54 = .ok (.iload 4, 2) := by decide +kernel
theorem dX7_readFact_56 : decode cX7_readFact 56 = .ok (.ifCond .eq 21, 3) := by decide +kernel
theorem dX7_readFact_59 : decode cX7_readFact 59 = .ok (.iload_n 1, 1) := by decide +kernel
theorem dX7_readFact_60 : decode cX7_readFact 60 = .ok (.bipush 10, 2) := by decide +kernel
theorem dX7_readFact_62 : decode cX7_readFact 62 = .ok (.if_icmp .lt 15, 3) := by decide +kernel
theorem dX7_readFact_65 : decode cX7_readFact 65 = .ok (.aload_n 0, 1) := by decide +kernel
theorem dX7_readFact_66 : decode cX7_readFact 66 = .ok (.getfield 9, 3) := by decide +kernel
theorem dX7_readFact_69 : decode cX7_readFact 69 = .ok (.iload_n 2, 1) := by decide +kernel
theorem dX7_readFact_70 : decode cX7_readFact 70 = .ok (.iconst 2, 1) := by decide +kernel
theorem dX7_readFact_71 : decode cX7_readFact 71 = .ok (.invokevirtual 42, 3) := by decide +kernel
theorem dX7_readFact_74 : decode cX7_readFact 74 = .ok (.goto 91, 3) := by decide +kernel
theorem dX7_readFact_77 : decode cX7_readFact 77 = .ok (.iload_n 3, 1) := by decide +kernel
theorem dX7_readFact_78 : decode cX7_readFact 78 = .ok (.ifCond .eq 22, 3) := by decide +kernel
theorem dX7_readFact_81 : decode cX7_readFact 81 = .ok (.aload_n 0, 1) := by decide +kernel
theorem dX7_readFact_82 : decode cX7_readFact 82 = .ok (.iload_n 1, 1) := by decide +kernel
theorem dX7_readFact_83 : decode cX7_readFact 83 = .ok (.iconst 1, 1) := by decide +kernel
theorem dX7_readFact_84 : decode cX7_readFact 84 = .ok (.iadd, 1) := by decide +kernel
theorem dX7_readFact_85 : decode cX7_readFact 85 = .ok (.invokevirtual 75, 3) := by decide +kernel
theorem dX7_readFact_88 : decode cX7_readFact 88 = .ok (.aload_n 0, 1) := by decide +kernel
theorem dX7_readFact_89 : decode cX7_readFact 89 = .ok (.getfield 15, 3) := by decide +kernel
theorem dX7_readFact_92 : decode cX7_readFact 92 = .ok (.bipush (-24), 2) := by decide +kernel
theorem dX7_readFact_94 : decode cX7_readFact 94 = .ok (.invokevirtual 80, 3) := by decide +kernel
theorem dX7_readFact_97 : decode cX7_readFact 97 = .ok (.goto 68, 3) := by decide +kernel
theorem dX7_readFact_100 : decode cX7_readFact 100 = .ok (.iload 4, 2) := by decide +kernel
theorem dX7_readFact_102 : decode cX7_readFact 102 = .ok (.ifCond .eq 40, 3) := by decide +kernel
theorem dX7_readFact_105 : decode cX7_readFact 105 = .ok (.aload_n 0, 1) := by decide +kernel
theorem dX7_readFact_106 : decode cX7_readFact 106 = .ok (.iload_n 1, 1) := by decide +kernel
theorem dX7_readFact_107 : decode cX7_readFact 107 = .ok (.iconst 1, 1) := by decide +kernel
theorem dX7_readFact_108 : decode cX7_readFact 108 = .ok (.iadd, 1) := by decide +kernel
theorem dX7_readFact_109 : decode cX7_readFact 109 = .ok (.invokevirtual 57, 3) := by decide +kernel
theorem dX7_readFact_112 : decode cX7_readFact 112 = .ok (.aload_n 0, 1) := by decide +kernel
theorem dX7_readFact_113 : decode cX7_readFact 113 = .ok (.getfield 9, 3) := by decide +kernel
theorem dX7_readFact_116 : decode cX7_readFact 116 = .ok (.bipush 93, 2) := by decide +kernel
theorem dX7_readFact_118 : decode cX7_readFact 118 = .ok (.invokevirtual 71, 3) := by decide +kernel
theorem dX7_readFact_121 : decode cX7_readFact 121 = .ok (.ifCond .ne 44, 3) := by decide +kernel
theorem dX7_readFact_124 : decode cX7_readFact 124 = .ok (.aload_n 0, 1) := by decide +kernel
theorem dX7_readFact_125 : decode cX7_readFact 125 = .ok (.getfield 9, 3) := by decide +kernel
theorem dX7_readFact_128 : decode cX7_readFact 128 = .ok (.aload_n 0, 1) := by decide +kernel
theorem dX7_readFact_129 : decode cX7_readFact 129 = .ok (.getfield 9, 3) := by decide +kernel
theorem dX7_readFact_132 : decode cX7_readFact 132 = .ok (.getfield 33, 3) := by decide +kernel
theorem dX7_readFact_135 : decode cX7_readFact 135 = .ok (.iconst 0, 1) := by decide +kernel
theorem dX7_readFact_136 : decode cX7_readFact 136 = .ok (.invokevirtual 42, 3) := by decide +kernel
theorem dX7_readFact_139 : decode cX7_readFact 139 = .ok (.goto 26, 3) := by decide +kernel
theorem dX7_readFact_142 : decode cX7_readFact 142 = .ok (.aload_n 0, 1) := by decide +kernel
theorem dX7_readFact_143 : decode cX7_readFact 143 = .ok (.invokevirtual 49, 3) := by decide +kernel
theorem dX7_readFact_146 : decode cX7_readFact 146 = .ok (.aload_n 0, 1) := by decide +kernel
theorem dX7_readFact_147 : decode cX7_readFact 147 = .ok (.invokevirtual 85, 3) := by decide +kernel
theorem dX7_readFact_150 : decode cX7_readFact 150 = .ok (.istore 5, 2) := by decide +kernel
theorem dX7_readFact_152 : decode cX7_readFact 152 = .ok (.aload_n 0, 1) := by decide +kernel
theorem dX7_readFact_153 : decode cX7_readFact 153 = .ok (.invokevirtual 49, 3) := by decide +kernel
theorem dX7_readFact_156 : decode cX7_readFact 156 = .ok (.aload_n 0, 1) := by decide +kernel
theorem dX7_readFact_157 : decode cX7_readFact 157 = .ok (.getfield 15, 3) := by decide +kernel
theorem dX7_readFact_160 : decode cX7_readFact 160 = .ok (.iload 5, 2) := by decide +kernel
theorem dX7_readFact_162 : decode cX7_readFact 162 = .ok (.invokevirtual 80, 3) := by decide +kernel
theorem dX7_readFact_165 : decode cX7_readFact 165 = .ok (.return_, 1) := by decide +kernel
theorem dX7_readSign_0 : decode cX7_readSign 0 = .ok (.aload_n 0, 1) := by decide +kernel
theorem dX7_readSign_1 : decode cX7_readSign 1 = .ok (.getfield 9, 3) := by decide +kernel
theorem dX7_readSign_4 : decode cX7_readSign 4 = .ok (.getfield 33, 3) := by decide +kernel
theorem dX7_readSign_7 : decode cX7_readSign 7 = .ok (.istore_n 1, 1) := by decide +kernel
theorem dX7_readSign_8 : decode cX7_readSign 8 = .ok (.iconst 0, 1) := by decide +kernel
theorem dX7_readSign_9 : decode cX7_readSign 9 = .ok (.istore_n 2, 1) := by decide +kernel
theorem dX7_readSign_10 : decode cX7_readSign 10 = .ok (.aload_n 0, 1) := by decide +kernel
theorem dX7_readSign_11 : decode cX7_readSign 11 = .ok (.getfield 9, 3) := by decide +kernel
theorem dX7_readSign_14 : decode cX7_readSign 14 = .ok (.bipush 60, 2) := by decide +kernel
theorem dX7_readSign_16 : decode cX7_readSign 16 = .ok (.bipush 61, 2) := by decide +kernel
theorem dX7_readSign_18 : decode cX7_readSign 18 = .ok (.invokevirtual 89, 3) := by decide +kernel
theorem dX7_readSign_21 : decode cX7_readSign 21 = .ok (.ifCond .eq 9, 3) := by decide +kernel
theorem dX7_readSign_24 : decode cX7_readSign 24 = .ok (.bipush (-18), 2) := by decide +kernel
theorem dX7_readSign_26 : decode cX7_readSign 26 = .ok (.istore_n 2, 1) := by decide +kernel
theorem dX7_readSign_27 : decode cX7_readSign 27 = .ok (.goto 86, 3) := by decide +kernel
theorem dX7_readSign_30 : decode cX7_readSign 30 = .ok (.aload_n 0, 1) := by decide +kernel
theorem dX7_readSign_31 : decode cX7_readSign 31 = .ok (.getfield 9, 3) := by decide +kernel
theorem dX7_readSign_34 : decode cX7_readSign 34 = .ok (.bipush 60, 2) := by decide +kernel
theorem dX7_readSign_36 : decode cX7_readSign 36 = .ok (.invokevirtual 71, 3) := by decide +kernel
theorem dX7_readSign_39 : decode cX7_readSign 39 = .ok (.ifCond .eq 9, 3) := by decide +kernel
theorem dX7_readSign_42 : decode cX7_readSign 42 = .ok (.bipush (-17), 2) := by decide +kernel
theorem dX7_readSign_44 : decode cX7_readSign 44 = .ok (.istore_n 2, 1) := by decide +kernel
theorem dX7_readSign_45 : decode cX7_readSign 45 = .ok (.goto 68, 3) := by decide +kernel
theorem dX7_readSign_48 : decode cX7_readSign 48 = .ok (.aload_n 0, 1) := by decide +kernel
theorem dX7_readSign_49 : decode cX7_readSign 49 = .ok (.getfield 9, 3) := by decide +kernel
theorem dX7_readSign_52 : decode cX7_readSign 52 = .ok (.bipush 62, 2) := by decide +kernel
theorem dX7_readSign_54 : decode cX7_readSign 54 = .ok (.bipush 61, 2) := by decide +kernel
theorem dX7_readSign_56 : decode cX7_readSign 56 = .ok (.invokevirtual 89, 3) := by decide +kernel
theorem dX7_readSign_59 : decode cX7_readSign 59 = .ok (.ifCond .eq 9, 3) := by decide +kernel
theorem dX7_readSign_62 : decode cX7_readSign 62 = .ok (.bipush (-20), 2) := by decide +kernel
theorem dX7_readSign_64 : decode cX7_readSign 64 = .ok (.istore_n 2, 1) := by decide +kernel
theorem dX7_readSign_65 : decode cX7_readSign 65 = .ok (.goto 48, 3) := by decide +kernel
theorem dX7_readSign_68 : decode cX7_readSign 68 = .ok (.aload_n 0, 1) := by decide +kernel
theorem dX7_readSign_69 : decode cX7_readSign 69 = .ok (.getfield 9, 3) := by decide +kernel
theorem dX7_readSign_72 : decode cX7_readSign 72 = .ok (.bipush 62, 2) := by decide +kernel
theorem dX7_readSign_74 : decode cX7_readSign 74 = .ok (.invokevirtual 71, 3) := by decide +kernel
theorem dX7_readSign_77 : decode cX7_readSign 77 = .ok (.ifCond .eq 9, 3) := by decide +kernel
theorem dX7_readSign_80 : decode cX7_readSign 80 = .ok (.bipush (-21), 2) := by decide +kernel
theorem dX7_readSign_82 : decode cX7_readSign 82 = .ok (.istore_n 2, 1) := by decide +kernel
theorem dX7_readSign_83 : decode cX7_readSign 83 = .ok (.goto 30, 3) := by decide +kernel
theorem dX7_readSign_86 : decode cX7_readSign 86 = .ok (.aload_n 0, 1) := by decide +kernel
theorem dX7_readSign_87 : decode cX7_readSign 87 = .ok (.getfield 9, 3) := by decide +kernel
theorem dX7_readSign_90 : decode cX7_readSign 90 = .ok (.bipush 61, 2) := by decide +kernel
theorem dX7_readSign_92 : decode cX7_readSign 92 = .ok (.invokevirtual 71, 3) := by decide +kernel
theorem dX7_readSign_95 : decode cX7_readSign 95 = .ok (.ifCond .eq 9, 3) := by decide +kernel
theorem dX7_readSign_98 : decode cX7_readSign 98 = .ok (.bipush (-19), 2) := by decide +kernel
theorem dX7_readSign_100 : decode cX7_readSign 100 = .ok (.istore_n 2, 1) := by decide +kernel
theorem dX7_readSign_101 : decode cX7_readSign 101 = .ok (.goto 12, 3) := by decide +kernel
theorem dX7_readSign_104 : decode cX7_readSign 104 = .ok (.aload_n 0, 1) := by decide +kernel
theorem dX7_readSign_105 : decode cX7_readSign 105 = .ok (.getfield 9, 3) := by decide +kernel
theorem dX7_readSign_108 : decode cX7_readSign 108 = .ok (.iload_n 1, 1) := by decide +kernel
theorem dX7_readSign_109 : decode cX7_readSign 109 = .ok (.iconst 0, 1) := by decide +kernel
theorem dX7_readSign_110 : decode cX7_readSign 110 = .ok (.invokevirtual 42, 3) := by decide +kernel
theorem dX7_readSign_113 : decode cX7_readSign 113 = .ok (.aload_n 0, 1) := by decide +kernel
theorem dX7_readSign_114 : decode cX7_readSign 114 = .ok (.iload_n 1, 1) := by decide +kernel
theorem dX7_readSign_115 : decode cX7_readSign 115 = .ok (.invokevirtual 93, 3) := by decide +kernel
theorem dX7_readSign_118 : decode cX7_readSign 118 = .ok (.iload_n 2, 1) := by decide +kernel
theorem dX7_readSign_119 : decode cX7_readSign 119 = .ok (.ireturn, 1) := by decide +kernel
theorem dX7_readSum_0 : decode cX7_readSum 0 = .ok (.iconst 0, 1) := by decide +kernel
theorem dX7_readSum_1 : decode cX7_readSum 1 = .ok (.istore_n 1, 1) := by decide +kernel
theorem dX7_readSum_2 : decode cX7_readSum 2 = .ok (.aload_n 0, 1) := by decide +kernel
theorem dX7_readSum_3 : decode cX7_readSum 3 = .ok (.invokevirtual 96, 3) := by decide +kernel
theorem dX7_readSum_6 : decode cX7_readSum 6 = .ok (.iconst 0, 1) := by decide +kernel
theorem dX7_readSum_7 : decode cX7_readSum 7 = .ok (.istore_n 2, 1) := by decide +kernel
theorem dX7_readSum_8 : decode cX7_readSum 8 = .ok (.iload_n 2, 1) := by decide +kernel
theorem dX7_readSum_9 : decode cX7_readSum 9 = .ok (.sipush 400, 3) := by decide +kernel
theorem dX7_readSum_12 : decode cX7_readSum 12 = .ok (.if_icmp .ge 85, 3) := by decide +kernel
theorem dX7_readSum_15 : decode cX7_readSum 15 = .ok (.aload_n 0, 1) := by decide +kernel
theorem dX7_readSum_16 : decode cX7_readSum 16 = .ok (.invokevirtual 99, 3) := by decide +kernel
theorem dX7_readSum_19 : decode cX7_readSum 19 = .ok (.istore_n 3, 1) := by decide +kernel
theorem dX7_readSum_20 : decode cX7_readSum 20 = .ok (.iload_n 3, 1) := by decide +kernel
theorem dX7_readSum_21 : decode cX7_readSum 21 = .ok (.ifCond .ne 6, 3) := by decide +kernel
theorem dX7_readSum_24 : decode cX7_readSum 24 = .ok (.goto 73, 3) := by decide +kernel
theorem dX7_readSum_27 : decode cX7_readSum 27 = .ok (.iload_n 3, 1) := by decide +kernel
theorem dX7_readSum_28 : decode cX7_readSum 28 = .ok (.bipush (-12), 2) := by decide +kernel
theorem dX7_readSum_30 : decode cX7_readSum 30 = .ok (.if_icmp .eq 9, 3) := by decide +kernel
theorem dX7_readSum_33 : decode cX7_readSum 33 = .ok (.iload_n 3, 1) := by decide +kernel
theorem dX7_readSum_34 : decode cX7_readSum 34 = .ok (.bipush (-13), 2) := by decide +kernel
theorem dX7_readSum_36 : decode cX7_readSum 36 = .ok (.if_icmp .ne 7, 3) := by decide +kernel
theorem dX7_readSum_39 : decode cX7_readSum 39 = .ok (.iconst 1, 1) := by decide +kernel
theorem dX7_readSum_40 : decode cX7_readSum 40 = .ok (.goto 4, 3) := by decide +kernel
theorem dX7_readSum_43 : decode cX7_readSum 43 = .ok (.iconst 0, 1) := by decide +kernel
theorem dX7_readSum_44 : decode cX7_readSum 44 = .ok (.istore 4, 2) := by decide +kernel
theorem dX7_readSum_46 : decode cX7_readSum 46 = .ok (.iload 4, 2) := by decide +kernel
theorem dX7_readSum_48 : decode cX7_readSum 48 = .ok (.ifCond .eq 15, 3) := by decide +kernel
theorem dX7_readSum_51 : decode cX7_readSum 51 = .ok (.iload_n 1, 1) := by decide +kernel
theorem dX7_readSum_52 : decode cX7_readSum 52 = .ok (.ifCond .eq 11, 3) := by decide +kernel
theorem dX7_readSum_55 : decode cX7_readSum 55 = .ok (.aload_n 0, 1) := by decide +kernel
theorem dX7_readSum_56 : decode cX7_readSum 56 = .ok (.getfield 15, 3) := by decide +kernel
theorem dX7_readSum_59 : decode cX7_readSum 59 = .ok (.iload_n 1, 1) := by decide +kernel
theorem dX7_readSum_60 : decode cX7_readSum 60 = .ok (.invokevirtual 80, 3) := by decide +kernel
theorem dX7_readSum_63 : decode cX7_readSum 63 = .ok (.iload 4, 2) := by decide +kernel
theorem dX7_readSum_65 : decode cX7_readSum 65 = .ok (.ifCond .eq 7, 3) := by decide +kernel
theorem dX7_readSum_68 : decode cX7_readSum 68 = .ok (.iload_n 3, 1) := by decide +kernel
theorem dX7_readSum_69 : decode cX7_readSum 69 = .ok (.goto 4, 3) := by decide +kernel
theorem dX7_readSum_72 : decode cX7_readSum 72 = .ok (.iload_n 1, 1) := by decide +kernel
theorem dX7_readSum_73 : decode cX7_readSum 73 = .ok (.istore_n 1, 1) := by decide +kernel
theorem dX7_readSum_74 : decode cX7_readSum 74 = .ok (.aload_n 0, 1) := by decide +kernel
theorem dX7_readSum_75 : decode cX7_readSum 75 = .ok (.invokevirtual 96, 3) := by decide +kernel
theorem dX7_readSum_78 : decode cX7_readSum 78 = .ok (.iload 4, 2) := by decide +kernel
theorem dX7_readSum_80 : decode cX7_readSum 80 = .ok (.ifCond .ne 11, 3) := by decide +kernel
theorem dX7_readSum_83 : decode cX7_readSum 83 = .ok (.aload_n 0, 1) := by decide +kernel
theorem dX7_readSum_84 : decode cX7_readSum 84 = .ok (.getfield 15, 3) := by decide +kernel
theorem dX7_readSum_87 : decode cX7_readSum 87 = .ok (.iload_n 3, 1) := by decide +kernel
theorem dX7_readSum_88 : decode cX7_readSum 88 = .ok (.invokevirtual 80, 3) := by decide +kernel
theorem dX7_readSum_91 : decode cX7_readSum 91 = .ok (.iinc 2 1, 3) := by decide +kernel
theorem dX7_readSum_94 : decode cX7_readSum 94 = .ok (.goto (-86), 3) := by decide +kernel
theorem dX7_readSum_97 : decode cX7_readSum 97 = .ok (.iload_n 1, 1) := by decide +kernel
theorem dX7_readSum_98 : decode cX7_readSum 98 = .ok (.ifCond .eq 11, 3) := by decide +kernel
theorem dX7_readSum_101 : decode cX7_readSum 101 = .ok (.aload_n 0, 1) := by decide +kernel
theorem dX7_readSum_102 : decode cX7_readSum 102 = .ok (.getfield 15, 3) := by decide +kernel
theorem dX7_readSum_105 : decode cX7_readSum 105 = .ok (.iload_n 1, 1) := by decide +kernel
theorem dX7_readSum_106 : decode cX7_readSum 106 = .ok (.invokevirtual 80, 3) := by decide +kernel
theorem dX7_readSum_109 : decode cX7_readSum 109 = .ok (.return_, 1) := by decide +kernel
theorem dX7_readTest_0 : decode cX7_readTest 0 = .ok (.iconst 0, 1) := by decide +kernel
theorem dX7_readTest_1 : decode cX7_readTest 1 = .ok (.istore_n 2, 1) := by decide +kernel
theorem dX7_readTest_2 : decode cX7_readTest 2 = .ok (.aload_n 0, 1) := by decide +kernel
theorem dX7_readTest_3 : decode cX7_readTest 3 = .ok (.iload_n 1, 1) := by decide +kernel
theorem dX7_readTest_4 : decode cX7_readTest 4 = .ok (.invokevirtual 75, 3) := by decide +kernel
theorem dX7_readTest_7 : decode cX7_readTest 7 = .ok (.iconst 0, 1) := by decide +kernel
theorem dX7_readTest_8 : decode cX7_readTest 8 = .ok (.istore_n 3, 1) := by decide +kernel
theorem dX7_readTest_9 : decode cX7_readTest 9 = .ok (.iload_n 3, 1) := by decide +kernel
theorem dX7_readTest_10 : decode cX7_readTest 10 = .ok (.sipush 400, 3) := by decide +kernel
theorem dX7_readTest_13 : decode cX7_readTest 13 = .ok (.if_icmp .ge 83, 3) := by decide +kernel
theorem dX7_readTest_16 : decode cX7_readTest 16 = .ok (.aload_n 0, 1) := by decide +kernel
theorem dX7_readTest_17 : decode cX7_readTest 17 = .ok (.getfield 9, 3) := by decide +kernel
theorem dX7_readTest_20 : decode cX7_readTest 20 = .ok (.ldc 78, 2) := by decide +kernel
theorem dX7_readTest_22 : decode cX7_readTest 22 = .ok (.invokevirtual 38, 3) := by decide +kernel
theorem dX7_readTest_25 : decode cX7_readTest 25 = .ok (.istore 4, 2) := by decide +kernel
theorem dX7_readTest_27 : decode cX7_readTest 27 = .ok (.iload 4, 2) := by decide +kernel
theorem dX7_readTest_29 : decode cX7_readTest 29 = .ok (.iconst (-1), 1) := by decide +kernel
theorem dX7_readTest_30 : decode cX7_readTest 30 = .ok (.if_icmp .ne 6, 3) := by decide +kernel
theorem dX7_readTest_33 : decode cX7_readTest 33 = .ok (.goto 63, 3) := by decide +kernel
theorem dX7_readTest_36 : decode cX7_readTest 36 = .ok (.iload 4, 2) := by decide +kernel
theorem dX7_readTest_38 : decode cX7_readTest 38 = .ok (.iconst 1, 1) := by decide +kernel
theorem dX7_readTest_39 : decode cX7_readTest 39 = .ok (.if_icmp .ne 16, 3) := by decide +kernel
theorem dX7_readTest_42 : decode cX7_readTest 42 = .ok (.iload_n 2, 1) := by decide +kernel
theorem dX7_readTest_43 : decode cX7_readTest 43 = .ok (.ifCond .eq 12, 3) := by decide +kernel
theorem dX7_readTest_46 : decode cX7_readTest 46 = .ok (.aload_n 0, 1) := by decide +kernel
theorem dX7_readTest_47 : decode cX7_readTest 47 = .ok (.getfield 15, 3) := by decide +kernel
theorem dX7_readTest_50 : decode cX7_readTest 50 = .ok (.bipush (-23), 2) := by decide +kernel
theorem dX7_readTest_52 : decode cX7_readTest 52 = .ok (.invokevirtual 80, 3) := by decide +kernel
theorem dX7_readTest_55 : decode cX7_readTest 55 = .ok (.iload_n 2, 1) := by decide +kernel
theorem dX7_readTest_56 : decode cX7_readTest 56 = .ok (.ifCond .ne 9, 3) := by decide +kernel
theorem dX7_readTest_59 : decode cX7_readTest 59 = .ok (.iload 4, 2) := by decide +kernel
theorem dX7_readTest_61 : decode cX7_readTest 61 = .ok (.iconst 1, 1) := by decide +kernel
theorem dX7_readTest_62 : decode cX7_readTest 62 = .ok (.if_icmp .ne 7, 3) := by decide +kernel
theorem dX7_readTest_65 : decode cX7_readTest 65 = .ok (.iconst 1, 1) := by decide +kernel
theorem dX7_readTest_66 : decode cX7_readTest 66 = .ok (.goto 4, 3) := by decide +kernel
theorem dX7_readTest_69 : decode cX7_readTest 69 = .ok (.iconst 0, 1) := by decide +kernel
theorem dX7_readTest_70 : decode cX7_readTest 70 = .ok (.istore_n 2, 1) := by decide +kernel
theorem dX7_readTest_71 : decode cX7_readTest 71 = .ok (.aload_n 0, 1) := by decide +kernel
theorem dX7_readTest_72 : decode cX7_readTest 72 = .ok (.iload_n 1, 1) := by decide +kernel
theorem dX7_readTest_73 : decode cX7_readTest 73 = .ok (.invokevirtual 75, 3) := by decide +kernel
theorem dX7_readTest_76 : decode cX7_readTest 76 = .ok (.iload 4, 2) := by decide +kernel
theorem dX7_readTest_78 : decode cX7_readTest 78 = .ok (.ifCond .ne 12, 3) := by decide +kernel
theorem dX7_readTest_81 : decode cX7_readTest 81 = .ok (.aload_n 0, 1) := by decide +kernel
theorem dX7_readTest_82 : decode cX7_readTest 82 = .ok (.getfield 15, 3) := by decide +kernel
theorem dX7_readTest_85 : decode cX7_readTest 85 = .ok (.bipush (-22), 2) := by decide +kernel
theorem dX7_readTest_87 : decode cX7_readTest 87 = .ok (.invokevirtual 80, 3) := by decide +kernel
theorem dX7_readTest_90 : decode cX7_readTest 90 = .ok (.iinc 3 1, 3) := by decide +kernel
theorem dX7_readTest_93 : decode cX7_readTest 93 = .ok (.goto (-84), 3) := by decide +kernel
theorem dX7_readTest_96 : decode cX7_readTest 96 = .ok (.iload_n 2, 1) := by decide +kernel
theorem dX7_readTest_97 : decode cX7_readTest 97 = .ok (.ifCond .eq 12, 3) := by decide +kernel
theorem dX7_readTest_100 : decode cX7_readTest 100 = .ok (.aload_n 0, 1) := by decide +kernel
theorem dX7_readTest_101 : decode cX7_readTest 101 = .ok (.getfield 15, 3) := by decide +kernel
theorem dX7_readTest_104 : decode cX7_readTest 104 = .ok (.bipush (-23), 2) := by decide +kernel
theorem dX7_readTest_106 : decode cX7_readTest 106 = .ok (.invokevirtual 80, 3) := by decide +kernel
theorem dX7_readTest_109 : decode cX7_readTest 109 = .ok (.return_, 1) := by decide +kernel
theorem dX7_takeStep_0 : decode cX7_takeStep 0 = .ok (.aload_n 0, 1) := by decide +kernel
theorem dX7_takeStep_1 : decode cX7_takeStep 1 = .ok (.getfield 9, 3) := by decide +kernel
theorem dX7_takeStep_4 : decode cX7_takeStep 4 = .ok (.bipush 43, 2) := by decide +kernel
theorem dX7_takeStep_6 : decode cX7_takeStep 6 = .ok (.invokevirtual 71, 3) := by decide +kernel
theorem dX7_takeStep_9 : decode cX7_takeStep 9 = .ok (.ifCond .eq 6, 3) := by decide +kernel
theorem dX7_takeStep_12 : decode cX7_takeStep 12 = .ok (.bipush (-12), 2) := by decide +kernel
theorem dX7_takeStep_14 : decode cX7_takeStep 14 = .ok (.ireturn, 1) := by decide +kernel
theorem dX7_takeStep_15 : decode cX7_takeStep 15 = .ok (.aload_n 0, 1) := by decide +kernel
theorem dX7_takeStep_16 : decode cX7_takeStep 16 = .ok (.getfield 9, 3) := by decide +kernel
theorem dX7_takeStep_19 : decode cX7_takeStep 19 = .ok (.bipush 45, 2) := by decide +kernel
theorem dX7_takeStep_21 : decode cX7_takeStep 21 = .ok (.invokevirtual 71, 3) := by decide +kernel
theorem dX7_takeStep_24 : decode cX7_takeStep 24 = .ok (.ifCond .eq 6, 3) := by decide +kernel
theorem dX7_takeStep_27 : decode cX7_takeStep 27 = .ok (.bipush (-13), 2) := by decide +kernel
theorem dX7_takeStep_29 : decode cX7_takeStep 29 = .ok (.ireturn, 1) := by decide +kernel
theorem dX7_takeStep_30 : decode cX7_takeStep 30 = .ok (.aload_n 0, 1) := by decide +kernel
theorem dX7_takeStep_31 : decode cX7_takeStep 31 = .ok (.getfield 9, 3) := by decide +kernel
theorem dX7_takeStep_34 : decode cX7_takeStep 34 = .ok (.bipush 42, 2) := by decide +kernel
theorem dX7_takeStep_36 : decode cX7_takeStep 36 = .ok (.invokevirtual 71, 3) := by decide +kernel
theorem dX7_takeStep_39 : decode cX7_takeStep 39 = .ok (.ifCond .eq 6, 3) := by decide +kernel
theorem dX7_takeStep_42 : decode cX7_takeStep 42 = .ok (.bipush (-14), 2) := by decide +kernel
theorem dX7_takeStep_44 : decode cX7_takeStep 44 = .ok (.ireturn, 1) := by decide +kernel
theorem dX7_takeStep_45 : decode cX7_takeStep 45 = .ok (.aload_n 0, 1) := by decide +kernel
theorem dX7_takeStep_46 : decode cX7_takeStep 46 = .ok (.getfield 9, 3) := by decide +kernel
theorem dX7_takeStep_49 : decode cX7_takeStep 49 = .ok (.bipush 47, 2) := by decide +kernel
theorem dX7_takeStep_51 : decode cX7_takeStep 51 = .ok (.invokevirtual 71, 3) := by decide +kernel
theorem dX7_takeStep_54 : decode cX7_takeStep 54 = .ok (.ifCond .eq 6, 3) := by decide +kernel
theorem dX7_takeStep_57 : decode cX7_takeStep 57 = .ok (.bipush (-15), 2) := by decide +kernel
theorem dX7_takeStep_59 : decode cX7_takeStep 59 = .ok (.ireturn, 1) := by decide +kernel
theorem dX7_takeStep_60 : decode cX7_takeStep 60 = .ok (.aload_n 0, 1) := by decide +kernel
theorem dX7_takeStep_61 : decode cX7_takeStep 61 = .ok (.getfield 9, 3) := by decide +kernel
theorem dX7_takeStep_64 : decode cX7_takeStep 64 = .ok (.bipush 37, 2) := by decide +kernel
theorem dX7_takeStep_66 : decode cX7_takeStep 66 = .ok (.invokevirtual 71, 3) := by decide +kernel
theorem dX7_takeStep_69 : decode cX7_takeStep 69 = .ok (.ifCond .eq 8, 3) := by decide +kernel
theorem dX7_takeStep_72 : decode cX7_takeStep 72 = .ok (.bipush (-16), 2) := by decide +kernel
theorem dX7_takeStep_74 : decode cX7_takeStep 74 = .ok (.goto 4, 3) := by decide +kernel
theorem dX7_takeStep_77 : decode cX7_takeStep 77 = .ok (.iconst 0, 1) := by decide +kernel
theorem dX7_takeStep_78 : decode cX7_takeStep 78 = .ok (.ireturn, 1) := by decide +kernel
theorem dX9_takeTwoSigns_0 : decode cX9_takeTwoSigns 0 = .ok (.aload_n 0, 1) := by decide +kernel
theorem dX9_takeTwoSigns_1 : decode cX9_takeTwoSigns 1 = .ok (.aload_n 0, 1) := by decide +kernel
theorem dX9_takeTwoSigns_2 : decode cX9_takeTwoSigns 2 = .ok (.getfield 26, 3) := by decide +kernel
theorem dX9_takeTwoSigns_5 : decode cX9_takeTwoSigns 5 = .ok (.iload_n 1, 1) := by decide +kernel
theorem dX9_takeTwoSigns_6 : decode cX9_takeTwoSigns 6 = .ok (.invokevirtual 29, 3) := by decide +kernel
theorem dX9_takeTwoSigns_9 : decode cX9_takeTwoSigns 9 = .ok (.ifCond .eq 21, 3) := by decide +kernel
theorem dX9_takeTwoSigns_12 : decode cX9_takeTwoSigns 12 = .ok (.aload_n 0, 1) := by decide +kernel
theorem dX9_takeTwoSigns_13 : decode cX9_takeTwoSigns 13 = .ok (.aload_n 0, 1) := by decide +kernel
theorem dX9_takeTwoSigns_14 : decode cX9_takeTwoSigns 14 = .ok (.getfield 26, 3) := by decide +kernel
theorem dX9_takeTwoSigns_17 : decode cX9_takeTwoSigns 17 = .ok (.iconst 1, 1) := by decide +kernel
theorem dX9_takeTwoSigns_18 : decode cX9_takeTwoSigns 18 = .ok (.iadd, 1) := by decide +kernel
theorem dX9_takeTwoSigns_19 : decode cX9_takeTwoSigns 19 = .ok (.iload_n 2, 1) := by decide +kernel
theorem dX9_takeTwoSigns_20 : decode cX9_takeTwoSigns 20 = .ok (.invokevirtual 29, 3) := by decide +kernel
theorem dX9_takeTwoSigns_23 : decode cX9_takeTwoSigns 23 = .ok (.ifCond .eq 7, 3) := by decide +kernel
theorem dX9_takeTwoSigns_26 : decode cX9_takeTwoSigns 26 = .ok (.iconst 1, 1) := by decide +kernel
theorem dX9_takeTwoSigns_27 : decode cX9_takeTwoSigns 27 = .ok (.goto 4, 3) := by decide +kernel
theorem dX9_takeTwoSigns_30 : decode cX9_takeTwoSigns 30 = .ok (.iconst 0, 1) := by decide +kernel
theorem dX9_takeTwoSigns_31 : decode cX9_takeTwoSigns 31 = .ok (.istore_n 3, 1) := by decide +kernel
theorem dX9_takeTwoSigns_32 : decode cX9_takeTwoSigns 32 = .ok (.iload_n 3, 1) := by decide +kernel
theorem dX9_takeTwoSigns_33 : decode cX9_takeTwoSigns 33 = .ok (.ifCond .eq 13, 3) := by decide +kernel
theorem dX9_takeTwoSigns_36 : decode cX9_takeTwoSigns 36 = .ok (.aload_n 0, 1) := by decide +kernel
theorem dX9_takeTwoSigns_37 : decode cX9_takeTwoSigns 37 = .ok (.aload_n 0, 1) := by decide +kernel
theorem dX9_takeTwoSigns_38 : decode cX9_takeTwoSigns 38 = .ok (.getfield 26, 3) := by decide +kernel
theorem dX9_takeTwoSigns_41 : decode cX9_takeTwoSigns 41 = .ok (.iconst 2, 1) := by decide +kernel
theorem dX9_takeTwoSigns_42 : decode cX9_takeTwoSigns 42 = .ok (.iadd, 1) := by decide +kernel
theorem dX9_takeTwoSigns_43 : decode cX9_takeTwoSigns 43 = .ok (.invokevirtual 22, 3) := by decide +kernel
theorem dX9_takeTwoSigns_46 : decode cX9_takeTwoSigns 46 = .ok (.iload_n 3, 1) := by decide +kernel
theorem dX9_takeTwoSigns_47 : decode cX9_takeTwoSigns 47 = .ok (.ireturn, 1) := by decide +kernel
theorem li_m13 : ((-13) : Int32).toInt = -13 := by decide
set_option maxHeartbeats 4000000 in
set_option maxRecDepth 100000 in
theorem t_X7_takeStep (l : Launch) (dC : Nat → ClassId) (dI : Nat → Nat → Nat) (tys : List (ClassId × FieldType)) (κ : tK) (B : Nat) (ws : va_W) (hT : Ty κ tys B ws) (a0 : Nat) (k_a0 : κ a0 = some 7) (f0 : Nat) (k_f0 : κ f0 = some 9) (f_a0_X7_0 : fld ws a0 7 0 (.ref f0)) (sz : Nat) : Met l yX7_takeStep (ws_u yX7_takeStep cX7_takeStep 1 (some .int)) ({ frames := 2, cells := 0, slots := 0, locals := 44 }) (va_Pc [.ref a0] (cPre (dC, dI) tys ws sz)) (va_Qi (fun (r : Int32) (w : va_W) => (-16) ≤ r.toInt ∧ r.toInt ≤ 0 ∧ Ty κ tys B w ∧ Sm [(9, 2)] [] κ ws w) (fun w t => cPost (dC, dI) tys w (va_A ws sz) t) (va_A ws sz)) 0 0 (va_A ws sz) := by
  refine Met.ofW (cc := cX7_takeStep) (maxL := 1) (ret := (some .int)) (by decide) rfl ?_
  intro p e s m args below meth c s₁ B0 hml hv
  obtain ⟨rfl, hsz, hP, hK, hD0, hE⟩ := hv
  have hx := B0.exec
  have hb := B0.bytes
  have hr := B0.returns
  have hts0 := atoms_spec (ws := ws_u yX7_takeStep cX7_takeStep 1 (some .int)) B0.pre
  have hts : ∀ w ∈ gT, w.before _ s = true := fun w h => hts0 w (List.mem_cons_of_mem _ h)
  have hown : s.vm.findClass RX7 = some m.cls := findClass_of_methodNamed B0.named
  have hlocks := B0.notSynchronized
  subst hsz
  have hD := hD0.self (sz := s.heap.size)
  generalize hAe : va_A ws s.heap.size = A at hD ⊢
  have hA : ∀ q : Nat, s.heap.size ≤ q → A q := fun q h => by rw [← hAe]; exact Or.inr h
  have hw : tW (dC, dI) tys κ B A s ws s.heap [] := ⟨hK, hP, hD, va_S.rf, hT⟩
  have hM : Sm [(9, 2)] [] κ ws ws := Sm.rf
  clear hP hK hD hD0 hts0
  have hl := lv_entry ([.ref a0]) (n := 1) (Nat.le_of_ble_eq_true rfl)
  rw [lg_entry_eq]
  generalize (lg_sl ([.ref a0]) ++ List.replicate (1 - (lg_sl ([.ref a0])).length) Slot.unset).toArray = ls at hl ⊢
  have hl : lv_has ls 1 [(0, .ref a0)] := hl
  refine t_start (fun QQ hQ => ?_)
  refine lv_aload_n hx hb dX7_takeStep_0 rfl (lv_at hl 0 rfl) ?_
  refine t_getk (ci := 7) (C := RX7) (T := TX7) (N := 3) hx hb hts iX7 hown hw rfl 0 (by decide) (hts _ tw_166) (fun _ h9 => h9) dX7_takeStep_1 f_a0_X7_0 ?_
  refine lv_bipush (v := 43) hx hb dX7_takeStep_4 (by decide) ?_
  refine t_calli (va_runV (As := [.int 43]) (rest := []) ⟨hx, hb, hml, hown, hts⟩ (t_X9_takeSign l dC dI tys κ B ws hw.2.2.2.2 f0 k_f0 43 (by decide) (by decide) s.heap.size) (cwV 1 hts (gUV tw_673 tw_603 tw_604 tw_2 tw_605) rfl rfl rfl (by decide +kernel) ⟨(Nat.le_of_ble_eq_true rfl), (Nat.le_of_ble_eq_true rfl)⟩) ⟨cPre.blind, t_recv hw (ci := 9) k_f0 rfl rfl, cPre.use hw.2.1 hw.1 hw.2.2.1 hE⟩ rfl rfl hl.1 rfl (lv_room (Nat.le_of_ble_eq_true rfl)) dX7_takeStep_6 ⟨(Nat.le_of_ble_eq_true rfl), (Nat.le_of_ble_eq_true rfl)⟩) hw hA (fun _ _ h => h.2.2.1) (fun v6 w_1 H locs hp hw => ?_)
  obtain ⟨l_v6, h_v6, _, hm⟩ := hp
  have hM := hM.trans hm (by decide) (by decide)
  have f_a0_X7_0 := hm.1 _ _ _ _ f_a0_X7_0 (by decide)
  refine lv_if_eq (tgt := 15) hx hb dX7_takeStep_9 (by decide) (fun c_9 => ?_) (fun c_9 => ?_)
  · simp only [fa_lt, fa_le, fa_eq, li_0] at c_9
    refine lv_aload_n hx hb dX7_takeStep_15 rfl (lv_at hl 0 rfl) ?_
    refine t_getk (ci := 7) (C := RX7) (T := TX7) (N := 3) hx hb hts iX7 hown hw rfl 0 (by decide) (hts _ tw_166) (fun _ h9 => h9) dX7_takeStep_16 f_a0_X7_0 ?_
    refine lv_bipush (v := 45) hx hb dX7_takeStep_19 (by decide) ?_
    refine t_calli (va_runV (As := [.int 45]) (rest := []) ⟨hx, hb, hml, hown, hts⟩ (t_X9_takeSign l dC dI tys κ B w_1 hw.2.2.2.2 f0 k_f0 45 (by decide) (by decide) H.size) (cwV 1 hts (gUV tw_673 tw_603 tw_604 tw_2 tw_605) rfl rfl rfl (by decide +kernel) ⟨(Nat.le_of_ble_eq_true rfl), (Nat.le_of_ble_eq_true rfl)⟩) ⟨cPre.blind, t_recv hw (ci := 9) k_f0 rfl rfl, cPre.use hw.2.1 hw.1 hw.2.2.1 hE⟩ rfl rfl hl.1 rfl (lv_room (Nat.le_of_ble_eq_true rfl)) dX7_takeStep_21 ⟨(Nat.le_of_ble_eq_true rfl), (Nat.le_of_ble_eq_true rfl)⟩) hw hA (fun _ _ h => h.2.2.1) (fun v21 w_2 H locs hp hw => ?_)
    obtain ⟨l_v21, h_v21, _, hm⟩ := hp
    have hM := hM.trans hm (by decide) (by decide)
    have f_a0_X7_0 := hm.1 _ _ _ _ f_a0_X7_0 (by decide)
    refine lv_if_eq (tgt := 30) hx hb dX7_takeStep_24 (by decide) (fun c_24 => ?_) (fun c_24 => ?_)
    · simp only [fa_lt, fa_le, fa_eq, li_0] at c_24
      refine lv_aload_n hx hb dX7_takeStep_30 rfl (lv_at hl 0 rfl) ?_
      refine t_getk (ci := 7) (C := RX7) (T := TX7) (N := 3) hx hb hts iX7 hown hw rfl 0 (by decide) (hts _ tw_166) (fun _ h9 => h9) dX7_takeStep_31 f_a0_X7_0 ?_
      refine lv_bipush (v := 42) hx hb dX7_takeStep_34 (by decide) ?_
      refine t_calli (va_runV (As := [.int 42]) (rest := []) ⟨hx, hb, hml, hown, hts⟩ (t_X9_takeSign l dC dI tys κ B w_2 hw.2.2.2.2 f0 k_f0 42 (by decide) (by decide) H.size) (cwV 1 hts (gUV tw_673 tw_603 tw_604 tw_2 tw_605) rfl rfl rfl (by decide +kernel) ⟨(Nat.le_of_ble_eq_true rfl), (Nat.le_of_ble_eq_true rfl)⟩) ⟨cPre.blind, t_recv hw (ci := 9) k_f0 rfl rfl, cPre.use hw.2.1 hw.1 hw.2.2.1 hE⟩ rfl rfl hl.1 rfl (lv_room (Nat.le_of_ble_eq_true rfl)) dX7_takeStep_36 ⟨(Nat.le_of_ble_eq_true rfl), (Nat.le_of_ble_eq_true rfl)⟩) hw hA (fun _ _ h => h.2.2.1) (fun v36 w_3 H locs hp hw => ?_)
      obtain ⟨l_v36, h_v36, _, hm⟩ := hp
      have hM := hM.trans hm (by decide) (by decide)
      have f_a0_X7_0 := hm.1 _ _ _ _ f_a0_X7_0 (by decide)
      refine lv_if_eq (tgt := 45) hx hb dX7_takeStep_39 (by decide) (fun c_39 => ?_) (fun c_39 => ?_)
      · simp only [fa_lt, fa_le, fa_eq, li_0] at c_39
        refine lv_aload_n hx hb dX7_takeStep_45 rfl (lv_at hl 0 rfl) ?_
        refine t_getk (ci := 7) (C := RX7) (T := TX7) (N := 3) hx hb hts iX7 hown hw rfl 0 (by decide) (hts _ tw_166) (fun _ h9 => h9) dX7_takeStep_46 f_a0_X7_0 ?_
        refine lv_bipush (v := 47) hx hb dX7_takeStep_49 (by decide) ?_
        refine t_calli (va_runV (As := [.int 47]) (rest := []) ⟨hx, hb, hml, hown, hts⟩ (t_X9_takeSign l dC dI tys κ B w_3 hw.2.2.2.2 f0 k_f0 47 (by decide) (by decide) H.size) (cwV 1 hts (gUV tw_673 tw_603 tw_604 tw_2 tw_605) rfl rfl rfl (by decide +kernel) ⟨(Nat.le_of_ble_eq_true rfl), (Nat.le_of_ble_eq_true rfl)⟩) ⟨cPre.blind, t_recv hw (ci := 9) k_f0 rfl rfl, cPre.use hw.2.1 hw.1 hw.2.2.1 hE⟩ rfl rfl hl.1 rfl (lv_room (Nat.le_of_ble_eq_true rfl)) dX7_takeStep_51 ⟨(Nat.le_of_ble_eq_true rfl), (Nat.le_of_ble_eq_true rfl)⟩) hw hA (fun _ _ h => h.2.2.1) (fun v51 w_4 H locs hp hw => ?_)
        obtain ⟨l_v51, h_v51, _, hm⟩ := hp
        have hM := hM.trans hm (by decide) (by decide)
        have f_a0_X7_0 := hm.1 _ _ _ _ f_a0_X7_0 (by decide)
        refine lv_if_eq (tgt := 60) hx hb dX7_takeStep_54 (by decide) (fun c_54 => ?_) (fun c_54 => ?_)
        · simp only [fa_lt, fa_le, fa_eq, li_0] at c_54
          refine lv_aload_n hx hb dX7_takeStep_60 rfl (lv_at hl 0 rfl) ?_
          refine t_getk (ci := 7) (C := RX7) (T := TX7) (N := 3) hx hb hts iX7 hown hw rfl 0 (by decide) (hts _ tw_166) (fun _ h9 => h9) dX7_takeStep_61 f_a0_X7_0 ?_
          refine lv_bipush (v := 37) hx hb dX7_takeStep_64 (by decide) ?_
          refine t_calli (va_runV (As := [.int 37]) (rest := []) ⟨hx, hb, hml, hown, hts⟩ (t_X9_takeSign l dC dI tys κ B w_4 hw.2.2.2.2 f0 k_f0 37 (by decide) (by decide) H.size) (cwV 1 hts (gUV tw_673 tw_603 tw_604 tw_2 tw_605) rfl rfl rfl (by decide +kernel) ⟨(Nat.le_of_ble_eq_true rfl), (Nat.le_of_ble_eq_true rfl)⟩) ⟨cPre.blind, t_recv hw (ci := 9) k_f0 rfl rfl, cPre.use hw.2.1 hw.1 hw.2.2.1 hE⟩ rfl rfl hl.1 rfl (lv_room (Nat.le_of_ble_eq_true rfl)) dX7_takeStep_66 ⟨(Nat.le_of_ble_eq_true rfl), (Nat.le_of_ble_eq_true rfl)⟩) hw hA (fun _ _ h => h.2.2.1) (fun v66 w_5 H locs hp hw => ?_)
          obtain ⟨l_v66, h_v66, _, hm⟩ := hp
          have hM := hM.trans hm (by decide) (by decide)
          have f_a0_X7_0 := hm.1 _ _ _ _ f_a0_X7_0 (by decide)
          refine lv_if_eq (tgt := 77) hx hb dX7_takeStep_69 (by decide) (fun c_69 => ?_) (fun c_69 => ?_)
          · simp only [fa_lt, fa_le, fa_eq, li_0] at c_69
            refine lv_iconst (v := 0) hx hb dX7_takeStep_77 (by decide) ?_
            rw [hQ]
            refine W.widen (k := 0) (n := 0) (Nat.le_refl _) (Nat.le_refl _) ?_
            exact W.iret (v := 0) hx hb hr (fun t ht hW => ⟨⟨0, w_5, rfl, ⟨(by decide), (by decide), hw.2.2.2.2, hM⟩, by rw [ht]; exact hw.2.1, va_K.moved hW.alike hw.1, hw.2.2.1⟩, hw.2.2.2.1.F ht⟩) hw.2.2.2.1.2.2 dX7_takeStep_78
          · simp only [fa_lt, fa_le, fa_eq, li_0] at c_69
            refine lv_bipush (v := (-16)) hx hb dX7_takeStep_72 (by decide) ?_
            refine lv_goto (tgt := 78) hx hb dX7_takeStep_74 (by decide) ?_
            rw [hQ]
            refine W.widen (k := 0) (n := 0) (Nat.le_refl _) (Nat.le_refl _) ?_
            exact W.iret (v := (-16)) hx hb hr (fun t ht hW => ⟨⟨(-16), w_5, rfl, ⟨(by decide), (by decide), hw.2.2.2.2, hM⟩, by rw [ht]; exact hw.2.1, va_K.moved hW.alike hw.1, hw.2.2.1⟩, hw.2.2.2.1.F ht⟩) hw.2.2.2.1.2.2 dX7_takeStep_78
        · simp only [fa_lt, fa_le, fa_eq, li_0] at c_54
          refine lv_bipush (v := (-15)) hx hb dX7_takeStep_57 (by decide) ?_
          rw [hQ]
          refine W.widen (k := 0) (n := 0) (Nat.le_refl _) (Nat.le_refl _) ?_
          exact W.iret (v := (-15)) hx hb hr (fun t ht hW => ⟨⟨(-15), w_4, rfl, ⟨(by decide), (by decide), hw.2.2.2.2, hM⟩, by rw [ht]; exact hw.2.1, va_K.moved hW.alike hw.1, hw.2.2.1⟩, hw.2.2.2.1.F ht⟩) hw.2.2.2.1.2.2 dX7_takeStep_59
      · simp only [fa_lt, fa_le, fa_eq, li_0] at c_39
        refine lv_bipush (v := (-14)) hx hb dX7_takeStep_42 (by decide) ?_
        rw [hQ]
        refine W.widen (k := 0) (n := 0) (Nat.le_refl _) (Nat.le_refl _) ?_
        exact W.iret (v := (-14)) hx hb hr (fun t ht hW => ⟨⟨(-14), w_3, rfl, ⟨(by decide), (by decide), hw.2.2.2.2, hM⟩, by rw [ht]; exact hw.2.1, va_K.moved hW.alike hw.1, hw.2.2.1⟩, hw.2.2.2.1.F ht⟩) hw.2.2.2.1.2.2 dX7_takeStep_44
    · simp only [fa_lt, fa_le, fa_eq, li_0] at c_24
      refine lv_bipush (v := (-13)) hx hb dX7_takeStep_27 (by decide) ?_
      rw [hQ]
      refine W.widen (k := 0) (n := 0) (Nat.le_refl _) (Nat.le_refl _) ?_
      exact W.iret (v := (-13)) hx hb hr (fun t ht hW => ⟨⟨(-13), w_2, rfl, ⟨(by decide), (by decide), hw.2.2.2.2, hM⟩, by rw [ht]; exact hw.2.1, va_K.moved hW.alike hw.1, hw.2.2.1⟩, hw.2.2.2.1.F ht⟩) hw.2.2.2.1.2.2 dX7_takeStep_29
  · simp only [fa_lt, fa_le, fa_eq, li_0] at c_9
    refine lv_bipush (v := (-12)) hx hb dX7_takeStep_12 (by decide) ?_
    rw [hQ]
    refine W.widen (k := 0) (n := 0) (Nat.le_refl _) (Nat.le_refl _) ?_
    exact W.iret (v := (-12)) hx hb hr (fun t ht hW => ⟨⟨(-12), w_1, rfl, ⟨(by decide), (by decide), hw.2.2.2.2, hM⟩, by rw [ht]; exact hw.2.1, va_K.moved hW.alike hw.1, hw.2.2.1⟩, hw.2.2.2.1.F ht⟩) hw.2.2.2.1.2.2 dX7_takeStep_14
set_option maxHeartbeats 4000000 in
set_option maxRecDepth 100000 in
theorem t_X7_readSum (l : Launch) (dC : Nat → ClassId) (dI : Nat → Nat → Nat) (tys : List (ClassId × FieldType)) (κ : tK) (B : Nat) (ws : va_W) (hT : Ty κ tys B ws) (aK aV : Nat → Nat) (a0 : Nat) (k_a0 : κ a0 = some 7) (f0 : Nat) (k_f0 : κ f0 = some 9) (f_a0_X7_0 : fld ws a0 7 0 (.ref f0)) (f1 : Nat) (k_f1 : κ f1 = some 6) (f_a0_X7_1 : fld ws a0 7 1 (.ref f1)) (sz : Nat) : Met l yX7_readSum (ws_u yX7_readSum cX7_readSum 5 none) ({ frames := 7, cells := 0, slots := 0, locals := 157 }) (va_Pc [.ref a0] (cPreS (dC, dI) aK aV tys ws sz)) (va_Qv (fun (w : va_W) => Ty κ tys B w ∧ Sm [(6, 1), (7, 2), (9, 2), (9, 3)] [38] κ ws w) (fun w t => cPost (dC, dI) tys w (va_A ws sz) t) (va_A ws sz)) 0 0 (va_A ws sz) := by
  refine Met.ofW (cc := cX7_readSum) (maxL := 5) (ret := none) (by decide) rfl ?_
  intro p e s m args below meth c s₁ B0 hml hv
  obtain ⟨rfl, ⟨hsz, hP, hK, hD0, hE⟩, hStr, hR⟩ := hv
  have hx := B0.exec
  have hb := B0.bytes
  have hr := B0.returns
  have hts0 := atoms_spec (ws := ws_u yX7_readSum cX7_readSum 5 none) B0.pre
  have hts : ∀ w ∈ gT, w.before _ s = true := fun w h => hts0 w (List.mem_cons_of_mem _ h)
  have hown : s.vm.findClass RX7 = some m.cls := findClass_of_methodNamed B0.named
  have hlocks := B0.notSynchronized
  subst hsz
  have hD := hD0.self (sz := s.heap.size)
  generalize hAe : va_A ws s.heap.size = A at hD hStr ⊢
  have hA : ∀ q : Nat, s.heap.size ≤ q → A q := fun q h => by rw [← hAe]; exact Or.inr h
  have hw : tW (dC, dI) tys κ B A s ws s.heap [] := ⟨hK, hP, hD, va_S.rf, hT⟩
  have hM : Sm [(6, 1), (7, 2), (9, 2), (9, 3)] [38] κ ws ws := Sm.rf
  clear hP hK hD hD0 hts0
  have hl := lv_entry ([.ref a0]) (n := 5) (Nat.le_of_ble_eq_true rfl)
  rw [lg_entry_eq]
  generalize (lg_sl ([.ref a0]) ++ List.replicate (5 - (lg_sl ([.ref a0])).length) Slot.unset).toArray = ls at hl ⊢
  have hl : lv_has ls 5 [(0, .ref a0)] := hl
  refine t_start (fun QQ hQ => ?_)
  refine lv_iconst (v := 0) hx hb dX7_readSum_0 (by decide) ?_
  refine lv_istore_n (lv' := [(1, .int 0), (0, .ref a0)]) hx hb dX7_readSum_1 rfl hl (by decide) rfl (fun ls hl => ?_)
  refine lv_aload_n hx hb dX7_readSum_2 rfl (lv_at hl 1 rfl) ?_
  refine t_callv (va_runV (As := []) (rest := []) ⟨hx, hb, hml, hown, hts⟩ (t_X7_readValue l dC dI tys κ B ws hw.2.2.2.2 aK aV a0 k_a0 f0 k_f0 f_a0_X7_0 f1 k_f1 f_a0_X7_1 s.heap.size) (cwV 0 hts (gUV tw_653 tw_655 ts_0_9 tw_5 tw_656) rfl rfl rfl (by decide +kernel) ⟨(Nat.le_of_ble_eq_true rfl), (Nat.le_of_ble_eq_true rfl)⟩) ⟨cPreS.blind, t_recv hw (ci := 7) k_a0 rfl rfl, cPreS.use hw.2.1 hw.1 hw.2.2.1 hE hStr hR hw.2.2.2.1 (hw.free hA)⟩ rfl rfl hl.1 rfl (lv_room (Nat.le_of_ble_eq_true rfl)) dX7_readSum_3 ⟨(Nat.le_of_ble_eq_true rfl), (Nat.le_of_ble_eq_true rfl)⟩) hw hA (fun _ h => h.1) (fun w_1 H locs hp hw => ?_)
  obtain ⟨_, hm⟩ := hp
  have hM := hM.trans hm (by decide) (by decide)
  have f_a0_X7_0 := hm.1 _ _ _ _ f_a0_X7_0 (by decide)
  have f_a0_X7_1 := hm.1 _ _ _ _ f_a0_X7_1 (by decide)
  refine lv_iconst (v := 0) hx hb dX7_readSum_6 (by decide) ?_
  refine lv_istore_n (lv' := [(2, .int 0), (1, .int 0), (0, .ref a0)]) hx hb dX7_readSum_7 rfl hl (by decide) rfl (fun ls hl => ?_)
  have J8 : ∀ (n : Nat) (H : Heap) (locs : List Loc) (ls : Array Slot), (∃ (w8 : va_W) (p8_l1 : Int32) (p8_l2 : Int32), tW (dC, dI) tys κ B A s w8 H locs ∧ Sm [(6, 1), (7, 2), (9, 2), (9, 3)] [38] κ ws w8 ∧ (-2147483648) ≤ p8_l1.toInt ∧ p8_l1.toInt ≤ 0 ∧ 0 ≤ p8_l2.toInt ∧ p8_l2.toInt ≤ 401 ∧ fld w8 a0 7 0 (.ref f0) ∧ fld w8 a0 7 1 (.ref f1) ∧ lv_has ls 5 [(0, .ref a0), (1, .int p8_l1), (2, .int p8_l2)] ∧ (401 - p8_l2.toInt).toNat = n) → W p l e (headSpec (ws_u yX7_readSum cX7_readSum 5 none) ({ frames := 7, cells := 0, slots := 0, locals := 157 })).room s m ([.ref a0] : List Value).toArray below meth c H locs 0 0 QQ (F0 m 8 ls []) := by
    refine loopT _ ?_
    intro n_8 H locs ls hI ih_8
    obtain ⟨w8, p8_l1, p8_l2, hw, hM, l_p8_l1, h_p8_l1, l_p8_l2, h_p8_l2, f_a0_X7_0, f_a0_X7_1, hl, hn_8⟩ := hI
    refine lv_iload_n hx hb dX7_readSum_8 rfl (lv_at hl 2 rfl) ?_
    refine lv_sipush (v := 400) hx hb dX7_readSum_9 (by decide) ?_
    have J97 : ∀ (H : Heap) (locs : List Loc) (ls : Array Slot) (w97 : va_W), tW (dC, dI) tys κ B A s w97 H locs → Sm [(6, 1), (7, 2), (9, 2), (9, 3)] [38] κ ws w97 → fld w97 a0 7 0 (.ref f0) → fld w97 a0 7 1 (.ref f1) → lv_has ls 5 [(0, .ref a0), (1, .int p8_l1), (2, .int p8_l2)] → W p l e (headSpec (ws_u yX7_readSum cX7_readSum 5 none) ({ frames := 7, cells := 0, slots := 0, locals := 157 })).room s m ([.ref a0] : List Value).toArray below meth c H locs 0 0 QQ (F0 m 97 ls []) := by
      intro H locs ls w97 hw hM f_a0_X7_0 f_a0_X7_1 hl
      refine lv_iload_n hx hb dX7_readSum_97 rfl (lv_at hl 1 rfl) ?_
      refine lv_if_eq (tgt := 109) hx hb dX7_readSum_98 (by decide) (fun c_98 => ?_) (fun c_98 => ?_)
      · simp only [fa_lt, fa_le, fa_eq, li_0] at c_98
        rw [hQ]
        refine W.widen (k := 0) (n := 0) (Nat.le_refl _) (Nat.le_refl _) ?_
        exact W.vret hx hb hr (fun t ht hW => ⟨⟨w97, rfl, ⟨hw.2.2.2.2, hM⟩, by rw [ht]; exact hw.2.1, va_K.moved hW.alike hw.1, hw.2.2.1⟩, hw.2.2.2.1.F ht⟩) hw.2.2.2.1.2.2 dX7_readSum_109
      · simp only [fa_lt, fa_le, fa_eq, li_0] at c_98
        refine lv_aload_n hx hb dX7_readSum_101 rfl (lv_at hl 0 rfl) ?_
        refine t_getk (ci := 7) (C := RX7) (T := TX7) (N := 3) hx hb hts iX7 hown hw rfl 1 (by decide) (hts _ tw_167) (fun _ h9 => h9) dX7_readSum_102 f_a0_X7_1 ?_
        refine lv_iload_n hx hb dX7_readSum_105 rfl (lv_at hl 1 rfl) ?_
        refine t_callv (va_runV (As := [.int p8_l1]) (rest := []) ⟨hx, hb, hml, hown, hts⟩ (t_X6_add l dC dI tys κ B w97 hw.2.2.2.2 f1 k_f1 p8_l1 H.size) (cwV 1 hts (gUV tw_660 tw_661 tw_662 tw_6 tw_663) rfl rfl rfl (by decide +kernel) ⟨(Nat.le_of_ble_eq_true rfl), (Nat.le_of_ble_eq_true rfl)⟩) ⟨cPre.blind, t_recv hw (ci := 6) k_f1 rfl rfl, cPre.use hw.2.1 hw.1 hw.2.2.1 hE⟩ rfl rfl hl.1 rfl (lv_room (Nat.le_of_ble_eq_true rfl)) dX7_readSum_106 ⟨(Nat.le_of_ble_eq_true rfl), (Nat.le_of_ble_eq_true rfl)⟩) hw hA (fun _ h => h.1) (fun w_2 H locs hp hw => ?_)
        obtain ⟨_, hm⟩ := hp
        have hM := hM.trans hm (by decide) (by decide)
        have f_a0_X7_0 := hm.1 _ _ _ _ f_a0_X7_0 (by decide)
        have f_a0_X7_1 := hm.1 _ _ _ _ f_a0_X7_1 (by decide)
        rw [hQ]
        refine W.widen (k := 0) (n := 0) (Nat.le_refl _) (Nat.le_refl _) ?_
        exact W.vret hx hb hr (fun t ht hW => ⟨⟨w_2, rfl, ⟨hw.2.2.2.2, hM⟩, by rw [ht]; exact hw.2.1, va_K.moved hW.alike hw.1, hw.2.2.1⟩, hw.2.2.2.1.F ht⟩) hw.2.2.2.1.2.2 dX7_readSum_109
    refine lv_icmp_ge (tgt := 97) hx hb dX7_readSum_12 (by decide) (fun c_12 => ?_) (fun c_12 => ?_)
    · simp only [fa_lt, fa_le, fa_eq, li_400] at c_12
      exact J97 _ _ _ w8 hw hM f_a0_X7_0 f_a0_X7_1 (lv_sub hl [0, 1, 2] rfl)
    · simp only [fa_lt, fa_le, fa_eq, li_400] at c_12
      refine lv_aload_n hx hb dX7_readSum_15 rfl (lv_at hl 0 rfl) ?_
      refine t_calli (va_runV (As := []) (rest := []) ⟨hx, hb, hml, hown, hts⟩ (t_X7_takeStep l dC dI tys κ B w8 hw.2.2.2.2 a0 k_a0 f0 k_f0 f_a0_X7_0 H.size) (cwV 0 hts (gUV tw_669 tw_671 ts_0_11 tw_5 tw_672) rfl rfl rfl (by decide +kernel) ⟨(Nat.le_of_ble_eq_true rfl), (Nat.le_of_ble_eq_true rfl)⟩) ⟨cPre.blind, t_recv hw (ci := 7) k_a0 rfl rfl, cPre.use hw.2.1 hw.1 hw.2.2.1 hE⟩ rfl rfl hl.1 rfl (lv_room (Nat.le_of_ble_eq_true rfl)) dX7_readSum_16 ⟨(Nat.le_of_ble_eq_true rfl), (Nat.le_of_ble_eq_true rfl)⟩) hw hA (fun _ _ h => h.2.2.1) (fun v16 w_3 H locs hp hw => ?_)
      obtain ⟨l_v16, h_v16, _, hm⟩ := hp
      have hM := hM.trans hm (by decide) (by decide)
      have f_a0_X7_0 := hm.1 _ _ _ _ f_a0_X7_0 (by decide)
      have f_a0_X7_1 := hm.1 _ _ _ _ f_a0_X7_1 (by decide)
      refine lv_istore_n (lv' := [(3, .int v16), (0, .ref a0), (1, .int p8_l1), (2, .int p8_l2)]) hx hb dX7_readSum_19 rfl hl (by decide) rfl (fun ls hl => ?_)
      refine lv_iload_n hx hb dX7_readSum_20 rfl (lv_at hl 0 rfl) ?_
      refine lv_if_ne (tgt := 27) hx hb dX7_readSum_21 (by decide) (fun c_21 => ?_) (fun c_21 => ?_)
      · simp only [fa_lt, fa_le, fa_eq, li_0] at c_21
        refine lv_iload_n hx hb dX7_readSum_27 rfl (lv_at hl 0 rfl) ?_
        refine lv_bipush (v := (-12)) hx hb dX7_readSum_28 (by decide) ?_
        have J44 : ∀ (H : Heap) (locs : List Loc) (ls : Array Slot) (w44 : va_W) (p44_s0 : Int32), tW (dC, dI) tys κ B A s w44 H locs → Sm [(6, 1), (7, 2), (9, 2), (9, 3)] [38] κ ws w44 → 0 ≤ p44_s0.toInt → p44_s0.toInt ≤ 1 → fld w44 a0 7 0 (.ref f0) → fld w44 a0 7 1 (.ref f1) → lv_has ls 5 [(0, .ref a0), (1, .int p8_l1), (2, .int p8_l2), (3, .int v16)] → W p l e (headSpec (ws_u yX7_readSum cX7_readSum 5 none) ({ frames := 7, cells := 0, slots := 0, locals := 157 })).room s m ([.ref a0] : List Value).toArray below meth c H locs 0 0 QQ (F0 m 44 ls [.int p44_s0]) := by
          intro H locs ls w44 p44_s0 hw hM l_p44_s0 h_p44_s0 f_a0_X7_0 f_a0_X7_1 hl
          refine lv_istore (lv' := [(4, .int p44_s0), (0, .ref a0), (1, .int p8_l1), (2, .int p8_l2), (3, .int v16)]) hx hb dX7_readSum_44 hl (by decide) rfl (fun ls hl => ?_)
          refine lv_iload hx hb dX7_readSum_46 (lv_at hl 0 rfl) ?_
          have J63 : ∀ (H : Heap) (locs : List Loc) (ls : Array Slot) (w63 : va_W), tW (dC, dI) tys κ B A s w63 H locs → Sm [(6, 1), (7, 2), (9, 2), (9, 3)] [38] κ ws w63 → fld w63 a0 7 0 (.ref f0) → fld w63 a0 7 1 (.ref f1) → lv_has ls 5 [(0, .ref a0), (1, .int p8_l1), (2, .int p8_l2), (3, .int v16), (4, .int p44_s0)] → W p l e (headSpec (ws_u yX7_readSum cX7_readSum 5 none) ({ frames := 7, cells := 0, slots := 0, locals := 157 })).room s m ([.ref a0] : List Value).toArray below meth c H locs 0 0 QQ (F0 m 63 ls []) := by
            intro H locs ls w63 hw hM f_a0_X7_0 f_a0_X7_1 hl
            refine lv_iload hx hb dX7_readSum_63 (lv_at hl 4 rfl) ?_
            have J73 : ∀ (H : Heap) (locs : List Loc) (ls : Array Slot) (w73 : va_W) (p73_s0 : Int32), tW (dC, dI) tys κ B A s w73 H locs → Sm [(6, 1), (7, 2), (9, 2), (9, 3)] [38] κ ws w73 → (-2147483648) ≤ p73_s0.toInt → p73_s0.toInt ≤ 0 → fld w73 a0 7 0 (.ref f0) → fld w73 a0 7 1 (.ref f1) → lv_has ls 5 [(0, .ref a0), (1, .int p8_l1), (2, .int p8_l2), (3, .int v16), (4, .int p44_s0)] → W p l e (headSpec (ws_u yX7_readSum cX7_readSum 5 none) ({ frames := 7, cells := 0, slots := 0, locals := 157 })).room s m ([.ref a0] : List Value).toArray below meth c H locs 0 0 QQ (F0 m 73 ls [.int p73_s0]) := by
              intro H locs ls w73 p73_s0 hw hM l_p73_s0 h_p73_s0 f_a0_X7_0 f_a0_X7_1 hl
              refine lv_istore_n (lv' := [(1, .int p73_s0), (0, .ref a0), (2, .int p8_l2), (3, .int v16), (4, .int p44_s0)]) hx hb dX7_readSum_73 rfl hl (by decide) rfl (fun ls hl => ?_)
              refine lv_aload_n hx hb dX7_readSum_74 rfl (lv_at hl 1 rfl) ?_
              refine t_callv (va_runV (As := []) (rest := []) ⟨hx, hb, hml, hown, hts⟩ (t_X7_readValue l dC dI tys κ B w73 hw.2.2.2.2 aK aV a0 k_a0 f0 k_f0 f_a0_X7_0 f1 k_f1 f_a0_X7_1 H.size) (cwV 0 hts (gUV tw_653 tw_655 ts_0_9 tw_5 tw_656) rfl rfl rfl (by decide +kernel) ⟨(Nat.le_of_ble_eq_true rfl), (Nat.le_of_ble_eq_true rfl)⟩) ⟨cPreS.blind, t_recv hw (ci := 7) k_a0 rfl rfl, cPreS.use hw.2.1 hw.1 hw.2.2.1 hE hStr hR hw.2.2.2.1 (hw.free hA)⟩ rfl rfl hl.1 rfl (lv_room (Nat.le_of_ble_eq_true rfl)) dX7_readSum_75 ⟨(Nat.le_of_ble_eq_true rfl), (Nat.le_of_ble_eq_true rfl)⟩) hw hA (fun _ h => h.1) (fun w_4 H locs hp hw => ?_)
              obtain ⟨_, hm⟩ := hp
              have hM := hM.trans hm (by decide) (by decide)
              have f_a0_X7_0 := hm.1 _ _ _ _ f_a0_X7_0 (by decide)
              have f_a0_X7_1 := hm.1 _ _ _ _ f_a0_X7_1 (by decide)
              refine lv_iload hx hb dX7_readSum_78 (lv_at hl 4 rfl) ?_
              have J91 : ∀ (H : Heap) (locs : List Loc) (ls : Array Slot) (w91 : va_W), tW (dC, dI) tys κ B A s w91 H locs → Sm [(6, 1), (7, 2), (9, 2), (9, 3)] [38] κ ws w91 → fld w91 a0 7 0 (.ref f0) → fld w91 a0 7 1 (.ref f1) → lv_has ls 5 [(0, .ref a0), (1, .int p73_s0), (2, .int p8_l2), (3, .int v16), (4, .int p44_s0)] → W p l e (headSpec (ws_u yX7_readSum cX7_readSum 5 none) ({ frames := 7, cells := 0, slots := 0, locals := 157 })).room s m ([.ref a0] : List Value).toArray below meth c H locs 0 0 QQ (F0 m 91 ls []) := by
                intro H locs ls w91 hw hM f_a0_X7_0 f_a0_X7_1 hl
                obtain ⟨v91, e_v91⟩ : ∃ y : Int32, y = p8_l2 + 1 := ⟨_, rfl⟩
                refine lv_iinc (v := v91) (lv' := [(2, .int v91), (0, .ref a0), (1, .int p73_s0), (3, .int v16), (4, .int p44_s0)]) hx hb dX7_readSum_91 hl (k := 2) rfl e_v91.symm (by decide) rfl (fun ls hl => ?_)
                have e_v91 : v91.toInt = p8_l2.toInt + 1 := ad_i e_v91 rfl li_1 (by omega) (by omega)
                refine lv_goto (tgt := 8) hx hb dX7_readSum_94 (by decide) ?_
                exact ih_8 _ _ _ _ (by omega) ⟨w91, p73_s0, v91, hw, hM, (by omega), (by omega), (by omega), (by omega), f_a0_X7_0, f_a0_X7_1, (lv_sub hl [1, 2, 0] rfl), rfl⟩
              refine lv_if_ne (tgt := 91) hx hb dX7_readSum_80 (by decide) (fun c_80 => ?_) (fun c_80 => ?_)
              · simp only [fa_lt, fa_le, fa_eq, li_0] at c_80
                exact J91 _ _ _ w_4 hw hM f_a0_X7_0 f_a0_X7_1 (lv_sub hl [1, 0, 2, 3, 4] rfl)
              · simp only [fa_lt, fa_le, fa_eq, li_0] at c_80
                refine lv_aload_n hx hb dX7_readSum_83 rfl (lv_at hl 1 rfl) ?_
                refine t_getk (ci := 7) (C := RX7) (T := TX7) (N := 3) hx hb hts iX7 hown hw rfl 1 (by decide) (hts _ tw_167) (fun _ h9 => h9) dX7_readSum_84 f_a0_X7_1 ?_
                refine lv_iload_n hx hb dX7_readSum_87 rfl (lv_at hl 3 rfl) ?_
                refine t_callv (va_runV (As := [.int v16]) (rest := []) ⟨hx, hb, hml, hown, hts⟩ (t_X6_add l dC dI tys κ B w_4 hw.2.2.2.2 f1 k_f1 v16 H.size) (cwV 1 hts (gUV tw_660 tw_661 tw_662 tw_6 tw_663) rfl rfl rfl (by decide +kernel) ⟨(Nat.le_of_ble_eq_true rfl), (Nat.le_of_ble_eq_true rfl)⟩) ⟨cPre.blind, t_recv hw (ci := 6) k_f1 rfl rfl, cPre.use hw.2.1 hw.1 hw.2.2.1 hE⟩ rfl rfl hl.1 rfl (lv_room (Nat.le_of_ble_eq_true rfl)) dX7_readSum_88 ⟨(Nat.le_of_ble_eq_true rfl), (Nat.le_of_ble_eq_true rfl)⟩) hw hA (fun _ h => h.1) (fun w_5 H locs hp hw => ?_)
                obtain ⟨_, hm⟩ := hp
                have hM := hM.trans hm (by decide) (by decide)
                have f_a0_X7_0 := hm.1 _ _ _ _ f_a0_X7_0 (by decide)
                have f_a0_X7_1 := hm.1 _ _ _ _ f_a0_X7_1 (by decide)
                exact J91 _ _ _ w_5 hw hM f_a0_X7_0 f_a0_X7_1 (lv_sub hl [1, 0, 2, 3, 4] rfl)
            refine lv_if_eq (tgt := 72) hx hb dX7_readSum_65 (by decide) (fun c_65 => ?_) (fun c_65 => ?_)
            · simp only [fa_lt, fa_le, fa_eq, li_0] at c_65
              refine lv_iload_n hx hb dX7_readSum_72 rfl (lv_at hl 1 rfl) ?_
              exact J73 _ _ _ w63 p8_l1 hw hM (by omega) (by omega) f_a0_X7_0 f_a0_X7_1 (lv_sub hl [0, 1, 2, 3, 4] rfl)
            · simp only [fa_lt, fa_le, fa_eq, li_0] at c_65
              refine lv_iload_n hx hb dX7_readSum_68 rfl (lv_at hl 3 rfl) ?_
              refine lv_goto (tgt := 73) hx hb dX7_readSum_69 (by decide) ?_
              exact J73 _ _ _ w63 v16 hw hM (by omega) (by omega) f_a0_X7_0 f_a0_X7_1 (lv_sub hl [0, 1, 2, 3, 4] rfl)
          refine lv_if_eq (tgt := 63) hx hb dX7_readSum_48 (by decide) (fun c_48 => ?_) (fun c_48 => ?_)
          · simp only [fa_lt, fa_le, fa_eq, li_0] at c_48
            exact J63 _ _ _ w44 hw hM f_a0_X7_0 f_a0_X7_1 (lv_sub hl [1, 2, 3, 4, 0] rfl)
          · simp only [fa_lt, fa_le, fa_eq, li_0] at c_48
            refine lv_iload_n hx hb dX7_readSum_51 rfl (lv_at hl 2 rfl) ?_
            refine lv_if_eq (tgt := 63) hx hb dX7_readSum_52 (by decide) (fun c_52 => ?_) (fun c_52 => ?_)
            · simp only [fa_lt, fa_le, fa_eq, li_0] at c_52
              exact J63 _ _ _ w44 hw hM f_a0_X7_0 f_a0_X7_1 (lv_sub hl [1, 2, 3, 4, 0] rfl)
            · simp only [fa_lt, fa_le, fa_eq, li_0] at c_52
              refine lv_aload_n hx hb dX7_readSum_55 rfl (lv_at hl 1 rfl) ?_
              refine t_getk (ci := 7) (C := RX7) (T := TX7) (N := 3) hx hb hts iX7 hown hw rfl 1 (by decide) (hts _ tw_167) (fun _ h9 => h9) dX7_readSum_56 f_a0_X7_1 ?_
              refine lv_iload_n hx hb dX7_readSum_59 rfl (lv_at hl 2 rfl) ?_
              refine t_callv (va_runV (As := [.int p8_l1]) (rest := []) ⟨hx, hb, hml, hown, hts⟩ (t_X6_add l dC dI tys κ B w44 hw.2.2.2.2 f1 k_f1 p8_l1 H.size) (cwV 1 hts (gUV tw_660 tw_661 tw_662 tw_6 tw_663) rfl rfl rfl (by decide +kernel) ⟨(Nat.le_of_ble_eq_true rfl), (Nat.le_of_ble_eq_true rfl)⟩) ⟨cPre.blind, t_recv hw (ci := 6) k_f1 rfl rfl, cPre.use hw.2.1 hw.1 hw.2.2.1 hE⟩ rfl rfl hl.1 rfl (lv_room (Nat.le_of_ble_eq_true rfl)) dX7_readSum_60 ⟨(Nat.le_of_ble_eq_true rfl), (Nat.le_of_ble_eq_true rfl)⟩) hw hA (fun _ h => h.1) (fun w_6 H locs hp hw => ?_)
              obtain ⟨_, hm⟩ := hp
              have hM := hM.trans hm (by decide) (by decide)
              have f_a0_X7_0 := hm.1 _ _ _ _ f_a0_X7_0 (by decide)
              have f_a0_X7_1 := hm.1 _ _ _ _ f_a0_X7_1 (by decide)
              exact J63 _ _ _ w_6 hw hM f_a0_X7_0 f_a0_X7_1 (lv_sub hl [1, 2, 3, 4, 0] rfl)
        have J39 : ∀ (H : Heap) (locs : List Loc) (ls : Array Slot) (w39 : va_W), tW (dC, dI) tys κ B A s w39 H locs → Sm [(6, 1), (7, 2), (9, 2), (9, 3)] [38] κ ws w39 → fld w39 a0 7 0 (.ref f0) → fld w39 a0 7 1 (.ref f1) → lv_has ls 5 [(0, .ref a0), (1, .int p8_l1), (2, .int p8_l2), (3, .int v16)] → W p l e (headSpec (ws_u yX7_readSum cX7_readSum 5 none) ({ frames := 7, cells := 0, slots := 0, locals := 157 })).room s m ([.ref a0] : List Value).toArray below meth c H locs 0 0 QQ (F0 m 39 ls []) := by
          intro H locs ls w39 hw hM f_a0_X7_0 f_a0_X7_1 hl
          refine lv_iconst (v := 1) hx hb dX7_readSum_39 (by decide) ?_
          refine lv_goto (tgt := 44) hx hb dX7_readSum_40 (by decide) ?_
          exact J44 _ _ _ w39 1 hw hM (by decide) (by decide) f_a0_X7_0 f_a0_X7_1 (lv_sub hl [0, 1, 2, 3] rfl)
        refine lv_icmp_eq (tgt := 39) hx hb dX7_readSum_30 (by decide) (fun c_30 => ?_) (fun c_30 => ?_)
        · simp only [fa_lt, fa_le, fa_eq, li_m12] at c_30
          exact J39 _ _ _ w_3 hw hM f_a0_X7_0 f_a0_X7_1 (lv_sub hl [1, 2, 3, 0] rfl)
        · simp only [fa_lt, fa_le, fa_eq, li_m12] at c_30
          refine lv_iload_n hx hb dX7_readSum_33 rfl (lv_at hl 0 rfl) ?_
          refine lv_bipush (v := (-13)) hx hb dX7_readSum_34 (by decide) ?_
          refine lv_icmp_ne (tgt := 43) hx hb dX7_readSum_36 (by decide) (fun c_36 => ?_) (fun c_36 => ?_)
          · simp only [fa_lt, fa_le, fa_eq, li_m13] at c_36
            refine lv_iconst (v := 0) hx hb dX7_readSum_43 (by decide) ?_
            exact J44 _ _ _ w_3 0 hw hM (by decide) (by decide) f_a0_X7_0 f_a0_X7_1 (lv_sub hl [1, 2, 3, 0] rfl)
          · simp only [fa_lt, fa_le, fa_eq, li_m13] at c_36
            exact J39 _ _ _ w_3 hw hM f_a0_X7_0 f_a0_X7_1 (lv_sub hl [1, 2, 3, 0] rfl)
      · simp only [fa_lt, fa_le, fa_eq, li_0] at c_21
        refine lv_goto (tgt := 97) hx hb dX7_readSum_24 (by decide) ?_
        exact J97 _ _ _ w_3 hw hM f_a0_X7_0 f_a0_X7_1 (lv_sub hl [1, 2, 3] rfl)
  exact J8 _ _ _ _ ⟨w_1, 0, 0, hw, hM, (by decide), (by decide), (by decide), (by decide), f_a0_X7_0, f_a0_X7_1, (lv_sub hl [2, 1, 0] rfl), rfl⟩
set_option maxHeartbeats 4000000 in
set_option maxRecDepth 100000 in
theorem t_X9_takeTwoSigns (l : Launch) (dC : Nat → ClassId) (dI : Nat → Nat → Nat) (tys : List (ClassId × FieldType)) (κ : tK) (B : Nat) (ws : va_W) (hT : Ty κ tys B ws) (a0 : Nat) (k_a0 : κ a0 = some 9) (a1 : Int32) (l_a1 : 60 ≤ a1.toInt) (h_a1 : a1.toInt ≤ 62) (a2 : Int32) (l_a2 : 61 ≤ a2.toInt) (h_a2 : a2.toInt ≤ 61) (sz : Nat) : Met l yX9_takeTwoSigns (ws_u yX9_takeTwoSigns cX9_takeTwoSigns 4 (some .boolean)) ({ frames := 1, cells := 0, slots := 0, locals := 22 }) (va_Pc [.ref a0, .int a1, .int a2] (cPre (dC, dI) tys ws sz)) (va_Qi (fun (r : Int32) (w : va_W) => 0 ≤ r.toInt ∧ r.toInt ≤ 1 ∧ Ty κ tys B w ∧ Sm [(9, 2)] [] κ ws w) (fun w t => cPost (dC, dI) tys w (va_A ws sz) t) (va_A ws sz)) 0 0 (va_A ws sz) := by
  refine Met.ofW (cc := cX9_takeTwoSigns) (maxL := 4) (ret := (some .boolean)) (by decide) rfl ?_
  intro p e s m args below meth c s₁ B0 hml hv
  obtain ⟨rfl, hsz, hP, hK, hD0, hE⟩ := hv
  have hx := B0.exec
  have hb := B0.bytes
  have hr := B0.returns
  have hts0 := atoms_spec (ws := ws_u yX9_takeTwoSigns cX9_takeTwoSigns 4 (some .boolean)) B0.pre
  have hts : ∀ w ∈ gT, w.before _ s = true := fun w h => hts0 w (List.mem_cons_of_mem _ h)
  have hown : s.vm.findClass RX9 = some m.cls := findClass_of_methodNamed B0.named
  have hlocks := B0.notSynchronized
  subst hsz
  have hD := hD0.self (sz := s.heap.size)
  generalize hAe : va_A ws s.heap.size = A at hD ⊢
  have hA : ∀ q : Nat, s.heap.size ≤ q → A q := fun q h => by rw [← hAe]; exact Or.inr h
  have hw : tW (dC, dI) tys κ B A s ws s.heap [] := ⟨hK, hP, hD, va_S.rf, hT⟩
  have hM : Sm [(9, 2)] [] κ ws ws := Sm.rf
  clear hP hK hD hD0 hts0
  have hl := lv_entry ([.ref a0, .int a1, .int a2]) (n := 4) (Nat.le_of_ble_eq_true rfl)
  rw [lg_entry_eq]
  generalize (lg_sl ([.ref a0, .int a1, .int a2]) ++ List.replicate (4 - (lg_sl ([.ref a0, .int a1, .int a2])).length) Slot.unset).toArray = ls at hl ⊢
  have hl : lv_has ls 4 [(0, .ref a0), (1, .int a1), (2, .int a2)] := hl
  refine t_start (fun QQ hQ => ?_)
  refine lv_aload_n hx hb dX9_takeTwoSigns_0 rfl (lv_at hl 0 rfl) ?_
  refine lv_aload_n hx hb dX9_takeTwoSigns_1 rfl (lv_at hl 0 rfl) ?_
  refine t_geti (ci := 9) (C := RX9) (T := TX9) (N := 4) hx hb hts iX9 hown hw k_a0 rfl rfl rfl 2 (by decide) (hts _ tw_41) (fun _ h9 => h9) dX9_takeTwoSigns_2 rfl (fun v2 l_v2 h_v2 f_a0_X9_2 => ?_)
  have l_v2 : 0 ≤ v2.toInt := l_v2
  have h_v2 : v2.toInt ≤ 400 := h_v2
  refine lv_iload_n hx hb dX9_takeTwoSigns_5 rfl (lv_at hl 1 rfl) ?_
  refine t_calli (va_runV (As := [.int v2, .int a1]) (rest := []) ⟨hx, hb, hml, hown, hts⟩ (t_X9_stands l dC dI tys κ B ws hw.2.2.2.2 a0 k_a0 v2 (by omega) (by omega) a1 (by omega) (by omega) s.heap.size) (cwV 2 hts (gUV tw_606 tw_608 ts_0_7 tw_2 tw_609) rfl rfl rfl (by decide +kernel) ⟨(Nat.le_of_ble_eq_true rfl), (Nat.le_of_ble_eq_true rfl)⟩) ⟨cPre.blind, t_recv hw (ci := 9) k_a0 rfl rfl, cPre.use hw.2.1 hw.1 hw.2.2.1 hE⟩ rfl rfl hl.1 rfl (lv_room (Nat.le_of_ble_eq_true rfl)) dX9_takeTwoSigns_6 ⟨(Nat.le_of_ble_eq_true rfl), (Nat.le_of_ble_eq_true rfl)⟩) hw hA (fun _ _ h => h.2.2.1) (fun v6 w_1 H locs hp hw => ?_)
  obtain ⟨l_v6, h_v6, _, hm, x_v6_0⟩ := hp
  have hM := hM.trans hm (by decide) (by decide)
  have f_a0_X9_2 := hm.1 _ _ _ _ f_a0_X9_2 (by decide)
  refine lv_if_eq (tgt := 30) hx hb dX9_takeTwoSigns_9 (by decide) (fun c_9 => ?_) (fun c_9 => ?_)
  · simp only [fa_lt, fa_le, fa_eq, li_0] at c_9
    refine lv_iconst (v := 0) hx hb dX9_takeTwoSigns_30 (by decide) ?_
    refine lv_istore_n (lv' := [(3, .int 0), (0, .ref a0), (1, .int a1), (2, .int a2)]) hx hb dX9_takeTwoSigns_31 rfl hl (by decide) rfl (fun ls hl => ?_)
    refine lv_iload_n hx hb dX9_takeTwoSigns_32 rfl (lv_at hl 0 rfl) ?_
    have J46 : ∀ (H : Heap) (locs : List Loc) (ls : Array Slot) (w46 : va_W) (p46_l3 : Int32), tW (dC, dI) tys κ B A s w46 H locs → Sm [(9, 2)] [] κ ws w46 → 0 ≤ p46_l3.toInt → p46_l3.toInt ≤ 1 → lv_has ls 4 [(0, .ref a0), (1, .int a1), (2, .int a2), (3, .int p46_l3)] → W p l e (headSpec (ws_u yX9_takeTwoSigns cX9_takeTwoSigns 4 (some .boolean)) ({ frames := 1, cells := 0, slots := 0, locals := 22 })).room s m ([.ref a0, .int a1, .int a2] : List Value).toArray below meth c H locs 0 0 QQ (F0 m 46 ls []) := by
      intro H locs ls w46 p46_l3 hw hM l_p46_l3 h_p46_l3 hl
      refine lv_iload_n hx hb dX9_takeTwoSigns_46 rfl (lv_at hl 3 rfl) ?_
      rw [hQ]
      refine W.widen (k := 0) (n := 0) (Nat.le_refl _) (Nat.le_refl _) ?_
      exact W.zret (v := p46_l3) hx hb hr (nb_i (by omega) (by omega)) (fun t ht hW => ⟨⟨p46_l3, w46, rfl, ⟨(by omega), (by omega), hw.2.2.2.2, hM⟩, by rw [ht]; exact hw.2.1, va_K.moved hW.alike hw.1, hw.2.2.1⟩, hw.2.2.2.1.F ht⟩) hw.2.2.2.1.2.2 dX9_takeTwoSigns_47
    refine lv_if_eq (tgt := 46) hx hb dX9_takeTwoSigns_33 (by decide) (fun _ => ?_) (fun c_33 => absurd c_33 (by decide))
    exact J46 _ _ _ w_1 0 hw hM (by decide) (by decide) (lv_sub hl [1, 2, 3, 0] rfl)
  · simp only [fa_lt, fa_le, fa_eq, li_0] at c_9
    refine lv_aload_n hx hb dX9_takeTwoSigns_12 rfl (lv_at hl 0 rfl) ?_
    refine lv_aload_n hx hb dX9_takeTwoSigns_13 rfl (lv_at hl 0 rfl) ?_
    refine t_getk (ci := 9) (C := RX9) (T := TX9) (N := 4) hx hb hts iX9 hown hw rfl 2 (by decide) (hts _ tw_41) (fun _ h9 => h9) dX9_takeTwoSigns_14 f_a0_X9_2 ?_
    refine lv_iconst (v := 1) hx hb dX9_takeTwoSigns_17 (by decide) ?_
    refine lv_iadd hx hb dX9_takeTwoSigns_18 ?_
    refine lv_topi (fun v18 e_v18 => ?_)
    have e_v18 : v18.toInt = v2.toInt + 1 := ad_i e_v18 rfl li_1 (by omega) (by omega)
    refine lv_iload_n hx hb dX9_takeTwoSigns_19 rfl (lv_at hl 2 rfl) ?_
    refine t_calli (va_runV (As := [.int v18, .int a2]) (rest := []) ⟨hx, hb, hml, hown, hts⟩ (t_X9_stands l dC dI tys κ B w_1 hw.2.2.2.2 a0 k_a0 v18 (by omega) (by omega) a2 (by omega) (by omega) H.size) (cwV 2 hts (gUV tw_606 tw_608 ts_0_7 tw_2 tw_609) rfl rfl rfl (by decide +kernel) ⟨(Nat.le_of_ble_eq_true rfl), (Nat.le_of_ble_eq_true rfl)⟩) ⟨cPre.blind, t_recv hw (ci := 9) k_a0 rfl rfl, cPre.use hw.2.1 hw.1 hw.2.2.1 hE⟩ rfl rfl hl.1 rfl (lv_room (Nat.le_of_ble_eq_true rfl)) dX9_takeTwoSigns_20 ⟨(Nat.le_of_ble_eq_true rfl), (Nat.le_of_ble_eq_true rfl)⟩) hw hA (fun _ _ h => h.2.2.1) (fun v20 w_2 H locs hp hw => ?_)
    obtain ⟨l_v20, h_v20, _, hm, x_v20_0⟩ := hp
    have hM := hM.trans hm (by decide) (by decide)
    have f_a0_X9_2 := hm.1 _ _ _ _ f_a0_X9_2 (by decide)
    refine lv_if_eq (tgt := 30) hx hb dX9_takeTwoSigns_23 (by decide) (fun c_23 => ?_) (fun c_23 => ?_)
    · simp only [fa_lt, fa_le, fa_eq, li_0] at c_23
      refine lv_iconst (v := 0) hx hb dX9_takeTwoSigns_30 (by decide) ?_
      refine lv_istore_n (lv' := [(3, .int 0), (0, .ref a0), (1, .int a1), (2, .int a2)]) hx hb dX9_takeTwoSigns_31 rfl hl (by decide) rfl (fun ls hl => ?_)
      refine lv_iload_n hx hb dX9_takeTwoSigns_32 rfl (lv_at hl 0 rfl) ?_
      have J46 : ∀ (H : Heap) (locs : List Loc) (ls : Array Slot) (w46 : va_W) (p46_l3 : Int32), tW (dC, dI) tys κ B A s w46 H locs → Sm [(9, 2)] [] κ ws w46 → 0 ≤ p46_l3.toInt → p46_l3.toInt ≤ 1 → lv_has ls 4 [(0, .ref a0), (1, .int a1), (2, .int a2), (3, .int p46_l3)] → W p l e (headSpec (ws_u yX9_takeTwoSigns cX9_takeTwoSigns 4 (some .boolean)) ({ frames := 1, cells := 0, slots := 0, locals := 22 })).room s m ([.ref a0, .int a1, .int a2] : List Value).toArray below meth c H locs 0 0 QQ (F0 m 46 ls []) := by
        intro H locs ls w46 p46_l3 hw hM l_p46_l3 h_p46_l3 hl
        refine lv_iload_n hx hb dX9_takeTwoSigns_46 rfl (lv_at hl 3 rfl) ?_
        rw [hQ]
        refine W.widen (k := 0) (n := 0) (Nat.le_refl _) (Nat.le_refl _) ?_
        exact W.zret (v := p46_l3) hx hb hr (nb_i (by omega) (by omega)) (fun t ht hW => ⟨⟨p46_l3, w46, rfl, ⟨(by omega), (by omega), hw.2.2.2.2, hM⟩, by rw [ht]; exact hw.2.1, va_K.moved hW.alike hw.1, hw.2.2.1⟩, hw.2.2.2.1.F ht⟩) hw.2.2.2.1.2.2 dX9_takeTwoSigns_47
      refine lv_if_eq (tgt := 46) hx hb dX9_takeTwoSigns_33 (by decide) (fun _ => ?_) (fun c_33 => absurd c_33 (by decide))
      exact J46 _ _ _ w_2 0 hw hM (by decide) (by decide) (lv_sub hl [1, 2, 3, 0] rfl)
    · simp only [fa_lt, fa_le, fa_eq, li_0] at c_23
      refine lv_iconst (v := 1) hx hb dX9_takeTwoSigns_26 (by decide) ?_
      refine lv_goto (tgt := 31) hx hb dX9_takeTwoSigns_27 (by decide) ?_
      refine lv_istore_n (lv' := [(3, .int 1), (0, .ref a0), (1, .int a1), (2, .int a2)]) hx hb dX9_takeTwoSigns_31 rfl hl (by decide) rfl (fun ls hl => ?_)
      refine lv_iload_n hx hb dX9_takeTwoSigns_32 rfl (lv_at hl 0 rfl) ?_
      have J46 : ∀ (H : Heap) (locs : List Loc) (ls : Array Slot) (w46 : va_W) (p46_l3 : Int32), tW (dC, dI) tys κ B A s w46 H locs → Sm [(9, 2)] [] κ ws w46 → 0 ≤ p46_l3.toInt → p46_l3.toInt ≤ 1 → lv_has ls 4 [(0, .ref a0), (1, .int a1), (2, .int a2), (3, .int p46_l3)] → W p l e (headSpec (ws_u yX9_takeTwoSigns cX9_takeTwoSigns 4 (some .boolean)) ({ frames := 1, cells := 0, slots := 0, locals := 22 })).room s m ([.ref a0, .int a1, .int a2] : List Value).toArray below meth c H locs 0 0 QQ (F0 m 46 ls []) := by
        intro H locs ls w46 p46_l3 hw hM l_p46_l3 h_p46_l3 hl
        refine lv_iload_n hx hb dX9_takeTwoSigns_46 rfl (lv_at hl 3 rfl) ?_
        rw [hQ]
        refine W.widen (k := 0) (n := 0) (Nat.le_refl _) (Nat.le_refl _) ?_
        exact W.zret (v := p46_l3) hx hb hr (nb_i (by omega) (by omega)) (fun t ht hW => ⟨⟨p46_l3, w46, rfl, ⟨(by omega), (by omega), hw.2.2.2.2, hM⟩, by rw [ht]; exact hw.2.1, va_K.moved hW.alike hw.1, hw.2.2.1⟩, hw.2.2.2.1.F ht⟩) hw.2.2.2.1.2.2 dX9_takeTwoSigns_47
      refine lv_if_eq (tgt := 46) hx hb dX9_takeTwoSigns_33 (by decide) (fun c_33 => absurd c_33 (by decide)) (fun _ => ?_)
      refine lv_aload_n hx hb dX9_takeTwoSigns_36 rfl (lv_at hl 1 rfl) ?_
      refine lv_aload_n hx hb dX9_takeTwoSigns_37 rfl (lv_at hl 1 rfl) ?_
      refine t_getk (ci := 9) (C := RX9) (T := TX9) (N := 4) hx hb hts iX9 hown hw rfl 2 (by decide) (hts _ tw_41) (fun _ h9 => h9) dX9_takeTwoSigns_38 f_a0_X9_2 ?_
      refine lv_iconst (v := 2) hx hb dX9_takeTwoSigns_41 (by decide) ?_
      refine lv_iadd hx hb dX9_takeTwoSigns_42 ?_
      refine lv_topi (fun v42 e_v42 => ?_)
      have e_v42 : v42.toInt = v2.toInt + 2 := ad_i e_v42 rfl li_2 (by omega) (by omega)
      refine t_callv (va_runV (As := [.int v42]) (rest := []) ⟨hx, hb, hml, hown, hts⟩ (t_X9_moveTo l dC dI tys κ B w_2 hw.2.2.2.2 a0 k_a0 v42 (by omega) (by omega) H.size) (cwV 1 hts (gUV tw_496 tw_498 ts_0_0 tw_2 tw_499) rfl rfl rfl (by decide +kernel) ⟨(Nat.le_of_ble_eq_true rfl), (Nat.le_of_ble_eq_true rfl)⟩) ⟨cPre.blind, t_recv hw (ci := 9) k_a0 rfl rfl, cPre.use hw.2.1 hw.1 hw.2.2.1 hE⟩ rfl rfl hl.1 rfl (lv_room (Nat.le_of_ble_eq_true rfl)) dX9_takeTwoSigns_43 ⟨(Nat.le_of_ble_eq_true rfl), (Nat.le_of_ble_eq_true rfl)⟩) hw hA (fun _ h => h.1) (fun w_3 H locs hp hw => ?_)
      obtain ⟨_, hm⟩ := hp
      have hM := hM.trans hm (by decide) (by decide)
      exact J46 _ _ _ w_3 1 hw hM (by decide) (by decide) (lv_sub hl [1, 2, 3, 0] rfl)
set_option maxHeartbeats 4000000 in
set_option maxRecDepth 100000 in
theorem t_X7_readSign (l : Launch) (dC : Nat → ClassId) (dI : Nat → Nat → Nat) (tys : List (ClassId × FieldType)) (κ : tK) (B : Nat) (ws : va_W) (hT : Ty κ tys B ws) (a0 : Nat) (k_a0 : κ a0 = some 7) (f0 : Nat) (k_f0 : κ f0 = some 9) (f_a0_X7_0 : fld ws a0 7 0 (.ref f0)) (sz : Nat) : Met l yX7_readSign (ws_u yX7_readSign cX7_readSign 3 (some .int)) ({ frames := 2, cells := 0, slots := 0, locals := 45 }) (va_Pc [.ref a0] (cPre (dC, dI) tys ws sz)) (va_Qi (fun (r : Int32) (w : va_W) => (-21) ≤ r.toInt ∧ r.toInt ≤ 0 ∧ Ty κ tys B w ∧ Sm [(7, 2), (9, 2), (9, 3)] [] κ ws w) (fun w t => cPost (dC, dI) tys w (va_A ws sz) t) (va_A ws sz)) 0 0 (va_A ws sz) := by
  refine Met.ofW (cc := cX7_readSign) (maxL := 3) (ret := (some .int)) (by decide) rfl ?_
  intro p e s m args below meth c s₁ B0 hml hv
  obtain ⟨rfl, hsz, hP, hK, hD0, hE⟩ := hv
  have hx := B0.exec
  have hb := B0.bytes
  have hr := B0.returns
  have hts0 := atoms_spec (ws := ws_u yX7_readSign cX7_readSign 3 (some .int)) B0.pre
  have hts : ∀ w ∈ gT, w.before _ s = true := fun w h => hts0 w (List.mem_cons_of_mem _ h)
  have hown : s.vm.findClass RX7 = some m.cls := findClass_of_methodNamed B0.named
  have hlocks := B0.notSynchronized
  subst hsz
  have hD := hD0.self (sz := s.heap.size)
  generalize hAe : va_A ws s.heap.size = A at hD ⊢
  have hA : ∀ q : Nat, s.heap.size ≤ q → A q := fun q h => by rw [← hAe]; exact Or.inr h
  have hw : tW (dC, dI) tys κ B A s ws s.heap [] := ⟨hK, hP, hD, va_S.rf, hT⟩
  have hM : Sm [(7, 2), (9, 2), (9, 3)] [] κ ws ws := Sm.rf
  clear hP hK hD hD0 hts0
  have hl := lv_entry ([.ref a0]) (n := 3) (Nat.le_of_ble_eq_true rfl)
  rw [lg_entry_eq]
  generalize (lg_sl ([.ref a0]) ++ List.replicate (3 - (lg_sl ([.ref a0])).length) Slot.unset).toArray = ls at hl ⊢
  have hl : lv_has ls 3 [(0, .ref a0)] := hl
  refine t_start (fun QQ hQ => ?_)
  refine lv_aload_n hx hb dX7_readSign_0 rfl (lv_at hl 0 rfl) ?_
  refine t_getk (ci := 7) (C := RX7) (T := TX7) (N := 3) hx hb hts iX7 hown hw rfl 0 (by decide) (hts _ tw_166) (fun _ h9 => h9) dX7_readSign_1 f_a0_X7_0 ?_
  refine t_geti (ci := 9) (C := RX9) (T := TX9) (N := 4) hx hb hts iX9 hown hw k_f0 rfl rfl rfl 2 (by decide) (hts _ tw_39) (fun _ h9 => h9) dX7_readSign_4 rfl (fun v4 l_v4 h_v4 f_f0_X9_2 => ?_)
  have l_v4 : 0 ≤ v4.toInt := l_v4
  have h_v4 : v4.toInt ≤ 400 := h_v4
  refine lv_istore_n (lv' := [(1, .int v4), (0, .ref a0)]) hx hb dX7_readSign_7 rfl hl (by decide) rfl (fun ls hl => ?_)
  refine lv_iconst (v := 0) hx hb dX7_readSign_8 (by decide) ?_
  refine lv_istore_n (lv' := [(2, .int 0), (1, .int v4), (0, .ref a0)]) hx hb dX7_readSign_9 rfl hl (by decide) rfl (fun ls hl => ?_)
  refine lv_aload_n hx hb dX7_readSign_10 rfl (lv_at hl 2 rfl) ?_
  refine t_getk (ci := 7) (C := RX7) (T := TX7) (N := 3) hx hb hts iX7 hown hw rfl 0 (by decide) (hts _ tw_166) (fun _ h9 => h9) dX7_readSign_11 f_a0_X7_0 ?_
  refine lv_bipush (v := 60) hx hb dX7_readSign_14 (by decide) ?_
  refine lv_bipush (v := 61) hx hb dX7_readSign_16 (by decide) ?_
  refine t_calli (va_runV (As := [.int 60, .int 61]) (rest := []) ⟨hx, hb, hml, hown, hts⟩ (t_X9_takeTwoSigns l dC dI tys κ B ws hw.2.2.2.2 f0 k_f0 60 (by decide) (by decide) 61 (by decide) (by decide) s.heap.size) (cwV 2 hts (gUV tw_692 tw_693 tw_694 tw_2 tw_695) rfl rfl rfl (by decide +kernel) ⟨(Nat.le_of_ble_eq_true rfl), (Nat.le_of_ble_eq_true rfl)⟩) ⟨cPre.blind, t_recv hw (ci := 9) k_f0 rfl rfl, cPre.use hw.2.1 hw.1 hw.2.2.1 hE⟩ rfl rfl hl.1 rfl (lv_room (Nat.le_of_ble_eq_true rfl)) dX7_readSign_18 ⟨(Nat.le_of_ble_eq_true rfl), (Nat.le_of_ble_eq_true rfl)⟩) hw hA (fun _ _ h => h.2.2.1) (fun v18 w_1 H locs hp hw => ?_)
  obtain ⟨l_v18, h_v18, _, hm⟩ := hp
  have hM := hM.trans hm (by decide) (by decide)
  have f_a0_X7_0 := hm.1 _ _ _ _ f_a0_X7_0 (by decide)
  have J113 : ∀ (H : Heap) (locs : List Loc) (ls : Array Slot) (w113 : va_W) (p113_l2 : Int32), tW (dC, dI) tys κ B A s w113 H locs → Sm [(7, 2), (9, 2), (9, 3)] [] κ ws w113 → (-21) ≤ p113_l2.toInt → p113_l2.toInt ≤ 0 → fld w113 a0 7 0 (.ref f0) → lv_has ls 3 [(0, .ref a0), (1, .int v4), (2, .int p113_l2)] → W p l e (headSpec (ws_u yX7_readSign cX7_readSign 3 (some .int)) ({ frames := 2, cells := 0, slots := 0, locals := 45 })).room s m ([.ref a0] : List Value).toArray below meth c H locs 0 0 QQ (F0 m 113 ls []) := by
    intro H locs ls w113 p113_l2 hw hM l_p113_l2 h_p113_l2 f_a0_X7_0 hl
    refine lv_aload_n hx hb dX7_readSign_113 rfl (lv_at hl 0 rfl) ?_
    refine lv_iload_n hx hb dX7_readSign_114 rfl (lv_at hl 1 rfl) ?_
    refine t_callv (va_runV (As := [.int v4]) (rest := []) ⟨hx, hb, hml, hown, hts⟩ (t_X7_countPart l dC dI tys κ B w113 hw.2.2.2.2 a0 k_a0 v4 (by omega) (by omega) f0 k_f0 f_a0_X7_0 H.size) (cwV 1 hts (gUV tw_665 tw_667 ts_0_10 tw_5 tw_668) rfl rfl rfl (by decide +kernel) ⟨(Nat.le_of_ble_eq_true rfl), (Nat.le_of_ble_eq_true rfl)⟩) ⟨cPre.blind, t_recv hw (ci := 7) k_a0 rfl rfl, cPre.use hw.2.1 hw.1 hw.2.2.1 hE⟩ rfl rfl hl.1 rfl (lv_room (Nat.le_of_ble_eq_true rfl)) dX7_readSign_115 ⟨(Nat.le_of_ble_eq_true rfl), (Nat.le_of_ble_eq_true rfl)⟩) hw hA (fun _ h => h.1) (fun w_2 H locs hp hw => ?_)
    obtain ⟨_, hm⟩ := hp
    have hM := hM.trans hm (by decide) (by decide)
    have f_a0_X7_0 := hm.1 _ _ _ _ f_a0_X7_0 (by decide)
    refine lv_iload_n hx hb dX7_readSign_118 rfl (lv_at hl 2 rfl) ?_
    rw [hQ]
    refine W.widen (k := 0) (n := 0) (Nat.le_refl _) (Nat.le_refl _) ?_
    exact W.iret (v := p113_l2) hx hb hr (fun t ht hW => ⟨⟨p113_l2, w_2, rfl, ⟨(by omega), (by omega), hw.2.2.2.2, hM⟩, by rw [ht]; exact hw.2.1, va_K.moved hW.alike hw.1, hw.2.2.1⟩, hw.2.2.2.1.F ht⟩) hw.2.2.2.1.2.2 dX7_readSign_119
  refine lv_if_eq (tgt := 30) hx hb dX7_readSign_21 (by decide) (fun c_21 => ?_) (fun c_21 => ?_)
  · simp only [fa_lt, fa_le, fa_eq, li_0] at c_21
    refine lv_aload_n hx hb dX7_readSign_30 rfl (lv_at hl 2 rfl) ?_
    refine t_getk (ci := 7) (C := RX7) (T := TX7) (N := 3) hx hb hts iX7 hown hw rfl 0 (by decide) (hts _ tw_166) (fun _ h9 => h9) dX7_readSign_31 f_a0_X7_0 ?_
    refine lv_bipush (v := 60) hx hb dX7_readSign_34 (by decide) ?_
    refine t_calli (va_runV (As := [.int 60]) (rest := []) ⟨hx, hb, hml, hown, hts⟩ (t_X9_takeSign l dC dI tys κ B w_1 hw.2.2.2.2 f0 k_f0 60 (by decide) (by decide) H.size) (cwV 1 hts (gUV tw_673 tw_603 tw_604 tw_2 tw_605) rfl rfl rfl (by decide +kernel) ⟨(Nat.le_of_ble_eq_true rfl), (Nat.le_of_ble_eq_true rfl)⟩) ⟨cPre.blind, t_recv hw (ci := 9) k_f0 rfl rfl, cPre.use hw.2.1 hw.1 hw.2.2.1 hE⟩ rfl rfl hl.1 rfl (lv_room (Nat.le_of_ble_eq_true rfl)) dX7_readSign_36 ⟨(Nat.le_of_ble_eq_true rfl), (Nat.le_of_ble_eq_true rfl)⟩) hw hA (fun _ _ h => h.2.2.1) (fun v36 w_3 H locs hp hw => ?_)
    obtain ⟨l_v36, h_v36, _, hm⟩ := hp
    have hM := hM.trans hm (by decide) (by decide)
    have f_a0_X7_0 := hm.1 _ _ _ _ f_a0_X7_0 (by decide)
    refine lv_if_eq (tgt := 48) hx hb dX7_readSign_39 (by decide) (fun c_39 => ?_) (fun c_39 => ?_)
    · simp only [fa_lt, fa_le, fa_eq, li_0] at c_39
      refine lv_aload_n hx hb dX7_readSign_48 rfl (lv_at hl 2 rfl) ?_
      refine t_getk (ci := 7) (C := RX7) (T := TX7) (N := 3) hx hb hts iX7 hown hw rfl 0 (by decide) (hts _ tw_166) (fun _ h9 => h9) dX7_readSign_49 f_a0_X7_0 ?_
      refine lv_bipush (v := 62) hx hb dX7_readSign_52 (by decide) ?_
      refine lv_bipush (v := 61) hx hb dX7_readSign_54 (by decide) ?_
      refine t_calli (va_runV (As := [.int 62, .int 61]) (rest := []) ⟨hx, hb, hml, hown, hts⟩ (t_X9_takeTwoSigns l dC dI tys κ B w_3 hw.2.2.2.2 f0 k_f0 62 (by decide) (by decide) 61 (by decide) (by decide) H.size) (cwV 2 hts (gUV tw_692 tw_693 tw_694 tw_2 tw_695) rfl rfl rfl (by decide +kernel) ⟨(Nat.le_of_ble_eq_true rfl), (Nat.le_of_ble_eq_true rfl)⟩) ⟨cPre.blind, t_recv hw (ci := 9) k_f0 rfl rfl, cPre.use hw.2.1 hw.1 hw.2.2.1 hE⟩ rfl rfl hl.1 rfl (lv_room (Nat.le_of_ble_eq_true rfl)) dX7_readSign_56 ⟨(Nat.le_of_ble_eq_true rfl), (Nat.le_of_ble_eq_true rfl)⟩) hw hA (fun _ _ h => h.2.2.1) (fun v56 w_4 H locs hp hw => ?_)
      obtain ⟨l_v56, h_v56, _, hm⟩ := hp
      have hM := hM.trans hm (by decide) (by decide)
      have f_a0_X7_0 := hm.1 _ _ _ _ f_a0_X7_0 (by decide)
      refine lv_if_eq (tgt := 68) hx hb dX7_readSign_59 (by decide) (fun c_59 => ?_) (fun c_59 => ?_)
      · simp only [fa_lt, fa_le, fa_eq, li_0] at c_59
        refine lv_aload_n hx hb dX7_readSign_68 rfl (lv_at hl 2 rfl) ?_
        refine t_getk (ci := 7) (C := RX7) (T := TX7) (N := 3) hx hb hts iX7 hown hw rfl 0 (by decide) (hts _ tw_166) (fun _ h9 => h9) dX7_readSign_69 f_a0_X7_0 ?_
        refine lv_bipush (v := 62) hx hb dX7_readSign_72 (by decide) ?_
        refine t_calli (va_runV (As := [.int 62]) (rest := []) ⟨hx, hb, hml, hown, hts⟩ (t_X9_takeSign l dC dI tys κ B w_4 hw.2.2.2.2 f0 k_f0 62 (by decide) (by decide) H.size) (cwV 1 hts (gUV tw_673 tw_603 tw_604 tw_2 tw_605) rfl rfl rfl (by decide +kernel) ⟨(Nat.le_of_ble_eq_true rfl), (Nat.le_of_ble_eq_true rfl)⟩) ⟨cPre.blind, t_recv hw (ci := 9) k_f0 rfl rfl, cPre.use hw.2.1 hw.1 hw.2.2.1 hE⟩ rfl rfl hl.1 rfl (lv_room (Nat.le_of_ble_eq_true rfl)) dX7_readSign_74 ⟨(Nat.le_of_ble_eq_true rfl), (Nat.le_of_ble_eq_true rfl)⟩) hw hA (fun _ _ h => h.2.2.1) (fun v74 w_5 H locs hp hw => ?_)
        obtain ⟨l_v74, h_v74, _, hm⟩ := hp
        have hM := hM.trans hm (by decide) (by decide)
        have f_a0_X7_0 := hm.1 _ _ _ _ f_a0_X7_0 (by decide)
        refine lv_if_eq (tgt := 86) hx hb dX7_readSign_77 (by decide) (fun c_77 => ?_) (fun c_77 => ?_)
        · simp only [fa_lt, fa_le, fa_eq, li_0] at c_77
          refine lv_aload_n hx hb dX7_readSign_86 rfl (lv_at hl 2 rfl) ?_
          refine t_getk (ci := 7) (C := RX7) (T := TX7) (N := 3) hx hb hts iX7 hown hw rfl 0 (by decide) (hts _ tw_166) (fun _ h9 => h9) dX7_readSign_87 f_a0_X7_0 ?_
          refine lv_bipush (v := 61) hx hb dX7_readSign_90 (by decide) ?_
          refine t_calli (va_runV (As := [.int 61]) (rest := []) ⟨hx, hb, hml, hown, hts⟩ (t_X9_takeSign l dC dI tys κ B w_5 hw.2.2.2.2 f0 k_f0 61 (by decide) (by decide) H.size) (cwV 1 hts (gUV tw_673 tw_603 tw_604 tw_2 tw_605) rfl rfl rfl (by decide +kernel) ⟨(Nat.le_of_ble_eq_true rfl), (Nat.le_of_ble_eq_true rfl)⟩) ⟨cPre.blind, t_recv hw (ci := 9) k_f0 rfl rfl, cPre.use hw.2.1 hw.1 hw.2.2.1 hE⟩ rfl rfl hl.1 rfl (lv_room (Nat.le_of_ble_eq_true rfl)) dX7_readSign_92 ⟨(Nat.le_of_ble_eq_true rfl), (Nat.le_of_ble_eq_true rfl)⟩) hw hA (fun _ _ h => h.2.2.1) (fun v92 w_6 H locs hp hw => ?_)
          obtain ⟨l_v92, h_v92, _, hm⟩ := hp
          have hM := hM.trans hm (by decide) (by decide)
          have f_a0_X7_0 := hm.1 _ _ _ _ f_a0_X7_0 (by decide)
          refine lv_if_eq (tgt := 104) hx hb dX7_readSign_95 (by decide) (fun c_95 => ?_) (fun c_95 => ?_)
          · simp only [fa_lt, fa_le, fa_eq, li_0] at c_95
            refine lv_aload_n hx hb dX7_readSign_104 rfl (lv_at hl 2 rfl) ?_
            refine t_getk (ci := 7) (C := RX7) (T := TX7) (N := 3) hx hb hts iX7 hown hw rfl 0 (by decide) (hts _ tw_166) (fun _ h9 => h9) dX7_readSign_105 f_a0_X7_0 ?_
            refine lv_iload_n hx hb dX7_readSign_108 rfl (lv_at hl 1 rfl) ?_
            refine lv_iconst (v := 0) hx hb dX7_readSign_109 (by decide) ?_
            refine t_callv (va_runV (As := [.int v4, .int 0]) (rest := []) ⟨hx, hb, hml, hown, hts⟩ (t_X9_fail l dC dI tys κ B w_6 hw.2.2.2.2 f0 k_f0 v4 (by omega) (by omega) 0 (by decide) (by decide) H.size) (cwV 2 hts (gUV tw_644 tw_562 tw_563 tw_2 tw_564) rfl rfl rfl (by decide +kernel) ⟨(Nat.le_of_ble_eq_true rfl), (Nat.le_of_ble_eq_true rfl)⟩) ⟨cPre.blind, t_recv hw (ci := 9) k_f0 rfl rfl, cPre.use hw.2.1 hw.1 hw.2.2.1 hE⟩ rfl rfl hl.1 rfl (lv_room (Nat.le_of_ble_eq_true rfl)) dX7_readSign_110 ⟨(Nat.le_of_ble_eq_true rfl), (Nat.le_of_ble_eq_true rfl)⟩) hw hA (fun _ h => h.1) (fun w_7 H locs hp hw => ?_)
            obtain ⟨_, hm, ⟨v110f, l_v110f, h_v110f, f_f0_X9_3⟩⟩ := hp
            have zc_0 := li_0
            have hM := hM.trans hm (by decide) (by decide)
            have f_a0_X7_0 := hm.1 _ _ _ _ f_a0_X7_0 (by decide)
            exact J113 _ _ _ w_7 0 hw hM (by decide) (by decide) f_a0_X7_0 (lv_sub hl [2, 1, 0] rfl)
          · simp only [fa_lt, fa_le, fa_eq, li_0] at c_95
            refine lv_bipush (v := (-19)) hx hb dX7_readSign_98 (by decide) ?_
            refine lv_istore_n (lv' := [(2, .int (-19)), (1, .int v4), (0, .ref a0)]) hx hb dX7_readSign_100 rfl hl (by decide) rfl (fun ls hl => ?_)
            refine lv_goto (tgt := 113) hx hb dX7_readSign_101 (by decide) ?_
            exact J113 _ _ _ w_6 (-19) hw hM (by decide) (by decide) f_a0_X7_0 (lv_sub hl [2, 1, 0] rfl)
        · simp only [fa_lt, fa_le, fa_eq, li_0] at c_77
          refine lv_bipush (v := (-21)) hx hb dX7_readSign_80 (by decide) ?_
          refine lv_istore_n (lv' := [(2, .int (-21)), (1, .int v4), (0, .ref a0)]) hx hb dX7_readSign_82 rfl hl (by decide) rfl (fun ls hl => ?_)
          refine lv_goto (tgt := 113) hx hb dX7_readSign_83 (by decide) ?_
          exact J113 _ _ _ w_5 (-21) hw hM (by decide) (by decide) f_a0_X7_0 (lv_sub hl [2, 1, 0] rfl)
      · simp only [fa_lt, fa_le, fa_eq, li_0] at c_59
        refine lv_bipush (v := (-20)) hx hb dX7_readSign_62 (by decide) ?_
        refine lv_istore_n (lv' := [(2, .int (-20)), (1, .int v4), (0, .ref a0)]) hx hb dX7_readSign_64 rfl hl (by decide) rfl (fun ls hl => ?_)
        refine lv_goto (tgt := 113) hx hb dX7_readSign_65 (by decide) ?_
        exact J113 _ _ _ w_4 (-20) hw hM (by decide) (by decide) f_a0_X7_0 (lv_sub hl [2, 1, 0] rfl)
    · simp only [fa_lt, fa_le, fa_eq, li_0] at c_39
      refine lv_bipush (v := (-17)) hx hb dX7_readSign_42 (by decide) ?_
      refine lv_istore_n (lv' := [(2, .int (-17)), (1, .int v4), (0, .ref a0)]) hx hb dX7_readSign_44 rfl hl (by decide) rfl (fun ls hl => ?_)
      refine lv_goto (tgt := 113) hx hb dX7_readSign_45 (by decide) ?_
      exact J113 _ _ _ w_3 (-17) hw hM (by decide) (by decide) f_a0_X7_0 (lv_sub hl [2, 1, 0] rfl)
  · simp only [fa_lt, fa_le, fa_eq, li_0] at c_21
    refine lv_bipush (v := (-18)) hx hb dX7_readSign_24 (by decide) ?_
    refine lv_istore_n (lv' := [(2, .int (-18)), (1, .int v4), (0, .ref a0)]) hx hb dX7_readSign_26 rfl hl (by decide) rfl (fun ls hl => ?_)
    refine lv_goto (tgt := 113) hx hb dX7_readSign_27 (by decide) ?_
    exact J113 _ _ _ w_1 (-18) hw hM (by decide) (by decide) f_a0_X7_0 (lv_sub hl [2, 1, 0] rfl)
set_option maxHeartbeats 4000000 in
set_option maxRecDepth 100000 in
theorem t_X7_readFact_10 (l : Launch) (dC : Nat → ClassId) (dI : Nat → Nat → Nat) (tys : List (ClassId × FieldType)) (κ : tK) (B : Nat) (ws : va_W) (hT : Ty κ tys B ws) (aK aV : Nat → Nat) (a0 : Nat) (k_a0 : κ a0 = some 7) (a1 : Int32) (l_a1 : 10 ≤ a1.toInt) (h_a1 : a1.toInt ≤ 10) (f0 : Nat) (k_f0 : κ f0 = some 9) (f_a0_X7_0 : fld ws a0 7 0 (.ref f0)) (f1 : Nat) (k_f1 : κ f1 = some 6) (f_a0_X7_1 : fld ws a0 7 1 (.ref f1)) (sz : Nat) : Met l yX7_readFact (ws_u yX7_readFact cX7_readFact 6 none) ({ frames := 8, cells := 0, slots := 0, locals := 181 }) (va_Pc [.ref a0, .int a1] (cPreS (dC, dI) aK aV tys ws sz)) (va_Qv (fun (w : va_W) => Ty κ tys B w ∧ Sm [(6, 1), (7, 2), (9, 2), (9, 3)] [38] κ ws w) (fun w t => cPost (dC, dI) tys w (va_A ws sz) t) (va_A ws sz)) 0 0 (va_A ws sz) := by
  refine Met.ofW (cc := cX7_readFact) (maxL := 6) (ret := none) (by decide) rfl ?_
  intro p e s m args below meth c s₁ B0 hml hv
  obtain ⟨rfl, ⟨hsz, hP, hK, hD0, hE⟩, hStr, hR⟩ := hv
  have hx := B0.exec
  have hb := B0.bytes
  have hr := B0.returns
  have hts0 := atoms_spec (ws := ws_u yX7_readFact cX7_readFact 6 none) B0.pre
  have hts : ∀ w ∈ gT, w.before _ s = true := fun w h => hts0 w (List.mem_cons_of_mem _ h)
  have hown : s.vm.findClass RX7 = some m.cls := findClass_of_methodNamed B0.named
  have hlocks := B0.notSynchronized
  subst hsz
  have hD := hD0.self (sz := s.heap.size)
  generalize hAe : va_A ws s.heap.size = A at hD hStr ⊢
  have hA : ∀ q : Nat, s.heap.size ≤ q → A q := fun q h => by rw [← hAe]; exact Or.inr h
  have hw : tW (dC, dI) tys κ B A s ws s.heap [] := ⟨hK, hP, hD, va_S.rf, hT⟩
  have hM : Sm [(6, 1), (7, 2), (9, 2), (9, 3)] [38] κ ws ws := Sm.rf
  clear hP hK hD hD0 hts0
  have hl := lv_entry ([.ref a0, .int a1]) (n := 6) (Nat.le_of_ble_eq_true rfl)
  rw [lg_entry_eq]
  generalize (lg_sl ([.ref a0, .int a1]) ++ List.replicate (6 - (lg_sl ([.ref a0, .int a1])).length) Slot.unset).toArray = ls at hl ⊢
  have hl : lv_has ls 6 [(0, .ref a0), (1, .int a1)] := hl
  refine t_start (fun QQ hQ => ?_)
  refine lv_aload_n hx hb dX7_readFact_0 rfl (lv_at hl 0 rfl) ?_
  refine t_getk (ci := 7) (C := RX7) (T := TX7) (N := 3) hx hb hts iX7 hown hw rfl 0 (by decide) (hts _ tw_166) (fun _ h9 => h9) dX7_readFact_1 f_a0_X7_0 ?_
  refine t_geti (ci := 9) (C := RX9) (T := TX9) (N := 4) hx hb hts iX9 hown hw k_f0 rfl rfl rfl 2 (by decide) (hts _ tw_39) (fun _ h9 => h9) dX7_readFact_4 rfl (fun v4 l_v4 h_v4 f_f0_X9_2 => ?_)
  have l_v4 : 0 ≤ v4.toInt := l_v4
  have h_v4 : v4.toInt ≤ 400 := h_v4
  refine lv_istore_n (lv' := [(2, .int v4), (0, .ref a0), (1, .int a1)]) hx hb dX7_readFact_7 rfl hl (by decide) rfl (fun ls hl => ?_)
  refine lv_aload_n hx hb dX7_readFact_8 rfl (lv_at hl 1 rfl) ?_
  refine t_getk (ci := 7) (C := RX7) (T := TX7) (N := 3) hx hb hts iX7 hown hw rfl 0 (by decide) (hts _ tw_166) (fun _ h9 => h9) dX7_readFact_9 f_a0_X7_0 ?_
  refine va_ldcS hx hb hown hR.2.2.2.1 dX7_readFact_12 ?_
  refine t_calli (va_runV (As := [.ref (aK 3)]) (rest := []) ⟨hx, hb, hml, hown, hts⟩ (t_X9_takeWord l dC dI tys κ B ws hw.2.2.2.2 aK aV f0 k_f0 3 (by decide) s.heap.size) (cwV 1 hts (gUV tw_643 tw_506 tw_507 tw_2 tw_508) rfl rfl rfl (by decide +kernel) ⟨(Nat.le_of_ble_eq_true rfl), (Nat.le_of_ble_eq_true rfl)⟩) ⟨cPreS.blind, t_recv hw (ci := 9) k_f0 rfl rfl, cPreS.use hw.2.1 hw.1 hw.2.2.1 hE hStr hR hw.2.2.2.1 (hw.free hA)⟩ rfl rfl hl.1 rfl (lv_room (Nat.le_of_ble_eq_true rfl)) dX7_readFact_14 ⟨(Nat.le_of_ble_eq_true rfl), (Nat.le_of_ble_eq_true rfl)⟩) hw hA (fun _ _ h => h.1) (fun v14 w_1 H locs hp hw => ?_)
  obtain ⟨_, hm⟩ := hp
  have l_v14 := i32_lo v14
  have h_v14 := i32_hi v14
  have hM := hM.trans hm (by decide) (by decide)
  have f_a0_X7_0 := hm.1 _ _ _ _ f_a0_X7_0 (by decide)
  have f_a0_X7_1 := hm.1 _ _ _ _ f_a0_X7_1 (by decide)
  refine lv_iconst (v := (-1)) hx hb dX7_readFact_17 (by decide) ?_
  refine lv_icmp_eq (tgt := 25) hx hb dX7_readFact_18 (by decide) (fun c_18 => ?_) (fun c_18 => ?_)
  · simp only [fa_lt, fa_le, fa_eq, li_m1] at c_18
    refine lv_iconst (v := 0) hx hb dX7_readFact_25 (by decide) ?_
    refine lv_istore_n (lv' := [(3, .int 0), (2, .int v4), (0, .ref a0), (1, .int a1)]) hx hb dX7_readFact_26 rfl hl (by decide) rfl (fun ls hl => ?_)
    refine lv_iload_n hx hb dX7_readFact_27 rfl (lv_at hl 0 rfl) ?_
    refine lv_if_ne (tgt := 47) hx hb dX7_readFact_28 (by decide) (fun c_28 => absurd c_28 (by decide)) (fun _ => ?_)
    refine lv_aload_n hx hb dX7_readFact_31 rfl (lv_at hl 2 rfl) ?_
    refine t_getk (ci := 7) (C := RX7) (T := TX7) (N := 3) hx hb hts iX7 hown hw rfl 0 (by decide) (hts _ tw_166) (fun _ h9 => h9) dX7_readFact_32 f_a0_X7_0 ?_
    refine lv_bipush (v := 91) hx hb dX7_readFact_35 (by decide) ?_
    refine t_calli (va_runV (As := [.int 91]) (rest := []) ⟨hx, hb, hml, hown, hts⟩ (t_X9_takeSign l dC dI tys κ B w_1 hw.2.2.2.2 f0 k_f0 91 (by decide) (by decide) H.size) (cwV 1 hts (gUV tw_673 tw_603 tw_604 tw_2 tw_605) rfl rfl rfl (by decide +kernel) ⟨(Nat.le_of_ble_eq_true rfl), (Nat.le_of_ble_eq_true rfl)⟩) ⟨cPre.blind, t_recv hw (ci := 9) k_f0 rfl rfl, cPre.use hw.2.1 hw.1 hw.2.2.1 hE⟩ rfl rfl hl.1 rfl (lv_room (Nat.le_of_ble_eq_true rfl)) dX7_readFact_37 ⟨(Nat.le_of_ble_eq_true rfl), (Nat.le_of_ble_eq_true rfl)⟩) hw hA (fun _ _ h => h.2.2.1) (fun v37 w_2 H locs hp hw => ?_)
    obtain ⟨l_v37, h_v37, _, hm⟩ := hp
    have hM := hM.trans hm (by decide) (by decide)
    have f_a0_X7_0 := hm.1 _ _ _ _ f_a0_X7_0 (by decide)
    have f_a0_X7_1 := hm.1 _ _ _ _ f_a0_X7_1 (by decide)
    refine lv_if_eq (tgt := 47) hx hb dX7_readFact_40 (by decide) (fun c_40 => ?_) (fun c_40 => ?_)
    · simp only [fa_lt, fa_le, fa_eq, li_0] at c_40
      refine lv_iconst (v := 0) hx hb dX7_readFact_47 (by decide) ?_
      refine lv_istore (lv' := [(4, .int 0), (3, .int 0), (2, .int v4), (0, .ref a0), (1, .int a1)]) hx hb dX7_readFact_48 hl (by decide) rfl (fun ls hl => ?_)
      refine lv_iload_n hx hb dX7_readFact_50 rfl (lv_at hl 1 rfl) ?_
      refine lv_if_ne (tgt := 59) hx hb dX7_readFact_51 (by decide) (fun c_51 => absurd c_51 (by decide)) (fun _ => ?_)
      refine lv_iload hx hb dX7_readFact_54 (lv_at hl 0 rfl) ?_
      refine lv_if_eq (tgt := 77) hx hb dX7_readFact_56 (by decide) (fun _ => ?_) (fun c_56 => absurd c_56 (by decide))
      refine lv_iload_n hx hb dX7_readFact_77 rfl (lv_at hl 1 rfl) ?_
      refine lv_if_eq (tgt := 100) hx hb dX7_readFact_78 (by decide) (fun _ => ?_) (fun c_78 => absurd c_78 (by decide))
      refine lv_iload hx hb dX7_readFact_100 (lv_at hl 0 rfl) ?_
      refine lv_if_eq (tgt := 142) hx hb dX7_readFact_102 (by decide) (fun _ => ?_) (fun c_102 => absurd c_102 (by decide))
      refine lv_aload_n hx hb dX7_readFact_142 rfl (lv_at hl 3 rfl) ?_
      refine t_callv (va_runV (As := []) (rest := []) ⟨hx, hb, hml, hown, hts⟩ (t_X7_readSum l dC dI tys κ B w_2 hw.2.2.2.2 aK aV a0 k_a0 f0 k_f0 f_a0_X7_0 f1 k_f1 f_a0_X7_1 H.size) (cwV 0 hts (gUV tw_649 tw_651 ts_0_8 tw_5 tw_652) rfl rfl rfl (by decide +kernel) ⟨(Nat.le_of_ble_eq_true rfl), (Nat.le_of_ble_eq_true rfl)⟩) ⟨cPreS.blind, t_recv hw (ci := 7) k_a0 rfl rfl, cPreS.use hw.2.1 hw.1 hw.2.2.1 hE hStr hR hw.2.2.2.1 (hw.free hA)⟩ rfl rfl hl.1 rfl (lv_room (Nat.le_of_ble_eq_true rfl)) dX7_readFact_143 ⟨(Nat.le_of_ble_eq_true rfl), (Nat.le_of_ble_eq_true rfl)⟩) hw hA (fun _ h => h.1) (fun w_3 H locs hp hw => ?_)
      obtain ⟨_, hm⟩ := hp
      have hM := hM.trans hm (by decide) (by decide)
      have f_a0_X7_0 := hm.1 _ _ _ _ f_a0_X7_0 (by decide)
      have f_a0_X7_1 := hm.1 _ _ _ _ f_a0_X7_1 (by decide)
      refine lv_aload_n hx hb dX7_readFact_146 rfl (lv_at hl 3 rfl) ?_
      refine t_calli (va_runV (As := []) (rest := []) ⟨hx, hb, hml, hown, hts⟩ (t_X7_readSign l dC dI tys κ B w_3 hw.2.2.2.2 a0 k_a0 f0 k_f0 f_a0_X7_0 H.size) (cwV 0 hts (gUV tw_688 tw_690 ts_0_14 tw_5 tw_691) rfl rfl rfl (by decide +kernel) ⟨(Nat.le_of_ble_eq_true rfl), (Nat.le_of_ble_eq_true rfl)⟩) ⟨cPre.blind, t_recv hw (ci := 7) k_a0 rfl rfl, cPre.use hw.2.1 hw.1 hw.2.2.1 hE⟩ rfl rfl hl.1 rfl (lv_room (Nat.le_of_ble_eq_true rfl)) dX7_readFact_147 ⟨(Nat.le_of_ble_eq_true rfl), (Nat.le_of_ble_eq_true rfl)⟩) hw hA (fun _ _ h => h.2.2.1) (fun v147 w_4 H locs hp hw => ?_)
      obtain ⟨l_v147, h_v147, _, hm⟩ := hp
      have hM := hM.trans hm (by decide) (by decide)
      have f_a0_X7_0 := hm.1 _ _ _ _ f_a0_X7_0 (by decide)
      have f_a0_X7_1 := hm.1 _ _ _ _ f_a0_X7_1 (by decide)
      refine lv_istore (lv' := [(5, .int v147), (4, .int 0), (3, .int 0), (2, .int v4), (0, .ref a0), (1, .int a1)]) hx hb dX7_readFact_150 hl (by decide) rfl (fun ls hl => ?_)
      refine lv_aload_n hx hb dX7_readFact_152 rfl (lv_at hl 4 rfl) ?_
      refine t_callv (va_runV (As := []) (rest := []) ⟨hx, hb, hml, hown, hts⟩ (t_X7_readSum l dC dI tys κ B w_4 hw.2.2.2.2 aK aV a0 k_a0 f0 k_f0 f_a0_X7_0 f1 k_f1 f_a0_X7_1 H.size) (cwV 0 hts (gUV tw_649 tw_651 ts_0_8 tw_5 tw_652) rfl rfl rfl (by decide +kernel) ⟨(Nat.le_of_ble_eq_true rfl), (Nat.le_of_ble_eq_true rfl)⟩) ⟨cPreS.blind, t_recv hw (ci := 7) k_a0 rfl rfl, cPreS.use hw.2.1 hw.1 hw.2.2.1 hE hStr hR hw.2.2.2.1 (hw.free hA)⟩ rfl rfl hl.1 rfl (lv_room (Nat.le_of_ble_eq_true rfl)) dX7_readFact_153 ⟨(Nat.le_of_ble_eq_true rfl), (Nat.le_of_ble_eq_true rfl)⟩) hw hA (fun _ h => h.1) (fun w_5 H locs hp hw => ?_)
      obtain ⟨_, hm⟩ := hp
      have hM := hM.trans hm (by decide) (by decide)
      have f_a0_X7_0 := hm.1 _ _ _ _ f_a0_X7_0 (by decide)
      have f_a0_X7_1 := hm.1 _ _ _ _ f_a0_X7_1 (by decide)
      refine lv_aload_n hx hb dX7_readFact_156 rfl (lv_at hl 4 rfl) ?_
      refine t_getk (ci := 7) (C := RX7) (T := TX7) (N := 3) hx hb hts iX7 hown hw rfl 1 (by decide) (hts _ tw_167) (fun _ h9 => h9) dX7_readFact_157 f_a0_X7_1 ?_
      refine lv_iload hx hb dX7_readFact_160 (lv_at hl 0 rfl) ?_
      refine t_callv (va_runV (As := [.int v147]) (rest := []) ⟨hx, hb, hml, hown, hts⟩ (t_X6_add l dC dI tys κ B w_5 hw.2.2.2.2 f1 k_f1 v147 H.size) (cwV 1 hts (gUV tw_660 tw_661 tw_662 tw_6 tw_663) rfl rfl rfl (by decide +kernel) ⟨(Nat.le_of_ble_eq_true rfl), (Nat.le_of_ble_eq_true rfl)⟩) ⟨cPre.blind, t_recv hw (ci := 6) k_f1 rfl rfl, cPre.use hw.2.1 hw.1 hw.2.2.1 hE⟩ rfl rfl hl.1 rfl (lv_room (Nat.le_of_ble_eq_true rfl)) dX7_readFact_162 ⟨(Nat.le_of_ble_eq_true rfl), (Nat.le_of_ble_eq_true rfl)⟩) hw hA (fun _ h => h.1) (fun w_6 H locs hp hw => ?_)
      obtain ⟨_, hm⟩ := hp
      have hM := hM.trans hm (by decide) (by decide)
      have f_a0_X7_0 := hm.1 _ _ _ _ f_a0_X7_0 (by decide)
      have f_a0_X7_1 := hm.1 _ _ _ _ f_a0_X7_1 (by decide)
      rw [hQ]
      refine W.widen (k := 0) (n := 0) (Nat.le_refl _) (Nat.le_refl _) ?_
      exact W.vret hx hb hr (fun t ht hW => ⟨⟨w_6, rfl, ⟨hw.2.2.2.2, hM⟩, by rw [ht]; exact hw.2.1, va_K.moved hW.alike hw.1, hw.2.2.1⟩, hw.2.2.2.1.F ht⟩) hw.2.2.2.1.2.2 dX7_readFact_165
    · simp only [fa_lt, fa_le, fa_eq, li_0] at c_40
      refine lv_iconst (v := 1) hx hb dX7_readFact_43 (by decide) ?_
      refine lv_goto (tgt := 48) hx hb dX7_readFact_44 (by decide) ?_
      refine lv_istore (lv' := [(4, .int 1), (3, .int 0), (2, .int v4), (0, .ref a0), (1, .int a1)]) hx hb dX7_readFact_48 hl (by decide) rfl (fun ls hl => ?_)
      refine lv_iload_n hx hb dX7_readFact_50 rfl (lv_at hl 1 rfl) ?_
      refine lv_if_ne (tgt := 59) hx hb dX7_readFact_51 (by decide) (fun c_51 => absurd c_51 (by decide)) (fun _ => ?_)
      refine lv_iload hx hb dX7_readFact_54 (lv_at hl 0 rfl) ?_
      refine lv_if_eq (tgt := 77) hx hb dX7_readFact_56 (by decide) (fun c_56 => absurd c_56 (by decide)) (fun _ => ?_)
      refine lv_iload_n hx hb dX7_readFact_59 rfl (lv_at hl 4 rfl) ?_
      refine lv_bipush (v := 10) hx hb dX7_readFact_60 (by decide) ?_
      refine lv_icmp_lt (tgt := 77) hx hb dX7_readFact_62 (by decide) (fun c_62 => by exfalso; simp only [fa_lt, fa_le, fa_eq, li_10] at c_62; omega) (fun c_62 => ?_)
      simp only [fa_lt, fa_le, fa_eq, li_10] at c_62
      refine lv_aload_n hx hb dX7_readFact_65 rfl (lv_at hl 3 rfl) ?_
      refine t_getk (ci := 7) (C := RX7) (T := TX7) (N := 3) hx hb hts iX7 hown hw rfl 0 (by decide) (hts _ tw_166) (fun _ h9 => h9) dX7_readFact_66 f_a0_X7_0 ?_
      refine lv_iload_n hx hb dX7_readFact_69 rfl (lv_at hl 2 rfl) ?_
      refine lv_iconst (v := 2) hx hb dX7_readFact_70 (by decide) ?_
      refine t_callv (va_runV (As := [.int v4, .int 2]) (rest := []) ⟨hx, hb, hml, hown, hts⟩ (t_X9_fail l dC dI tys κ B w_2 hw.2.2.2.2 f0 k_f0 v4 (by omega) (by omega) 2 (by decide) (by decide) H.size) (cwV 2 hts (gUV tw_644 tw_562 tw_563 tw_2 tw_564) rfl rfl rfl (by decide +kernel) ⟨(Nat.le_of_ble_eq_true rfl), (Nat.le_of_ble_eq_true rfl)⟩) ⟨cPre.blind, t_recv hw (ci := 9) k_f0 rfl rfl, cPre.use hw.2.1 hw.1 hw.2.2.1 hE⟩ rfl rfl hl.1 rfl (lv_room (Nat.le_of_ble_eq_true rfl)) dX7_readFact_71 ⟨(Nat.le_of_ble_eq_true rfl), (Nat.le_of_ble_eq_true rfl)⟩) hw hA (fun _ h => h.1) (fun w_7 H locs hp hw => ?_)
      obtain ⟨_, hm, ⟨v71f, l_v71f, h_v71f, f_f0_X9_3⟩⟩ := hp
      have zc_2 := li_2
      have hM := hM.trans hm (by decide) (by decide)
      have f_a0_X7_0 := hm.1 _ _ _ _ f_a0_X7_0 (by decide)
      have f_a0_X7_1 := hm.1 _ _ _ _ f_a0_X7_1 (by decide)
      refine lv_goto (tgt := 165) hx hb dX7_readFact_74 (by decide) ?_
      rw [hQ]
      refine W.widen (k := 0) (n := 0) (Nat.le_refl _) (Nat.le_refl _) ?_
      exact W.vret hx hb hr (fun t ht hW => ⟨⟨w_7, rfl, ⟨hw.2.2.2.2, hM⟩, by rw [ht]; exact hw.2.1, va_K.moved hW.alike hw.1, hw.2.2.1⟩, hw.2.2.2.1.F ht⟩) hw.2.2.2.1.2.2 dX7_readFact_165
  · simp only [fa_lt, fa_le, fa_eq, li_m1] at c_18
    refine lv_iconst (v := 1) hx hb dX7_readFact_21 (by decide) ?_
    refine lv_goto (tgt := 26) hx hb dX7_readFact_22 (by decide) ?_
    refine lv_istore_n (lv' := [(3, .int 1), (2, .int v4), (0, .ref a0), (1, .int a1)]) hx hb dX7_readFact_26 rfl hl (by decide) rfl (fun ls hl => ?_)
    refine lv_iload_n hx hb dX7_readFact_27 rfl (lv_at hl 0 rfl) ?_
    refine lv_if_ne (tgt := 47) hx hb dX7_readFact_28 (by decide) (fun _ => ?_) (fun c_28 => absurd c_28 (by decide))
    refine lv_iconst (v := 0) hx hb dX7_readFact_47 (by decide) ?_
    refine lv_istore (lv' := [(4, .int 0), (3, .int 1), (2, .int v4), (0, .ref a0), (1, .int a1)]) hx hb dX7_readFact_48 hl (by decide) rfl (fun ls hl => ?_)
    refine lv_iload_n hx hb dX7_readFact_50 rfl (lv_at hl 1 rfl) ?_
    refine lv_if_ne (tgt := 59) hx hb dX7_readFact_51 (by decide) (fun _ => ?_) (fun c_51 => absurd c_51 (by decide))
    refine lv_iload_n hx hb dX7_readFact_59 rfl (lv_at hl 4 rfl) ?_
    refine lv_bipush (v := 10) hx hb dX7_readFact_60 (by decide) ?_
    refine lv_icmp_lt (tgt := 77) hx hb dX7_readFact_62 (by decide) (fun c_62 => by exfalso; simp only [fa_lt, fa_le, fa_eq, li_10] at c_62; omega) (fun c_62 => ?_)
    simp only [fa_lt, fa_le, fa_eq, li_10] at c_62
    refine lv_aload_n hx hb dX7_readFact_65 rfl (lv_at hl 3 rfl) ?_
    refine t_getk (ci := 7) (C := RX7) (T := TX7) (N := 3) hx hb hts iX7 hown hw rfl 0 (by decide) (hts _ tw_166) (fun _ h9 => h9) dX7_readFact_66 f_a0_X7_0 ?_
    refine lv_iload_n hx hb dX7_readFact_69 rfl (lv_at hl 2 rfl) ?_
    refine lv_iconst (v := 2) hx hb dX7_readFact_70 (by decide) ?_
    refine t_callv (va_runV (As := [.int v4, .int 2]) (rest := []) ⟨hx, hb, hml, hown, hts⟩ (t_X9_fail l dC dI tys κ B w_1 hw.2.2.2.2 f0 k_f0 v4 (by omega) (by omega) 2 (by decide) (by decide) H.size) (cwV 2 hts (gUV tw_644 tw_562 tw_563 tw_2 tw_564) rfl rfl rfl (by decide +kernel) ⟨(Nat.le_of_ble_eq_true rfl), (Nat.le_of_ble_eq_true rfl)⟩) ⟨cPre.blind, t_recv hw (ci := 9) k_f0 rfl rfl, cPre.use hw.2.1 hw.1 hw.2.2.1 hE⟩ rfl rfl hl.1 rfl (lv_room (Nat.le_of_ble_eq_true rfl)) dX7_readFact_71 ⟨(Nat.le_of_ble_eq_true rfl), (Nat.le_of_ble_eq_true rfl)⟩) hw hA (fun _ h => h.1) (fun w_8 H locs hp hw => ?_)
    obtain ⟨_, hm, ⟨v71f, l_v71f, h_v71f, f_f0_X9_3⟩⟩ := hp
    have zc_2 := li_2
    have hM := hM.trans hm (by decide) (by decide)
    have f_a0_X7_0 := hm.1 _ _ _ _ f_a0_X7_0 (by decide)
    have f_a0_X7_1 := hm.1 _ _ _ _ f_a0_X7_1 (by decide)
    refine lv_goto (tgt := 165) hx hb dX7_readFact_74 (by decide) ?_
    rw [hQ]
    refine W.widen (k := 0) (n := 0) (Nat.le_refl _) (Nat.le_refl _) ?_
    exact W.vret hx hb hr (fun t ht hW => ⟨⟨w_8, rfl, ⟨hw.2.2.2.2, hM⟩, by rw [ht]; exact hw.2.1, va_K.moved hW.alike hw.1, hw.2.2.1⟩, hw.2.2.2.1.F ht⟩) hw.2.2.2.1.2.2 dX7_readFact_165
set_option maxHeartbeats 4000000 in
set_option maxRecDepth 100000 in
theorem t_X7_readTest_10 (l : Launch) (dC : Nat → ClassId) (dI : Nat → Nat → Nat) (tys : List (ClassId × FieldType)) (κ : tK) (B : Nat) (ws : va_W) (hT : Ty κ tys B ws) (aK aV : Nat → Nat) (a0 : Nat) (k_a0 : κ a0 = some 7) (a1 : Int32) (l_a1 : 10 ≤ a1.toInt) (h_a1 : a1.toInt ≤ 10) (f0 : Nat) (k_f0 : κ f0 = some 9) (f_a0_X7_0 : fld ws a0 7 0 (.ref f0)) (f1 : Nat) (k_f1 : κ f1 = some 6) (f_a0_X7_1 : fld ws a0 7 1 (.ref f1)) (sz : Nat) : Met l yX7_readTest (ws_u yX7_readTest cX7_readTest 5 none) ({ frames := 9, cells := 0, slots := 0, locals := 206 }) (va_Pc [.ref a0, .int a1] (cPreS (dC, dI) aK aV tys ws sz)) (va_Qv (fun (w : va_W) => Ty κ tys B w ∧ Sm [(6, 1), (7, 2), (9, 2), (9, 3)] [38] κ ws w) (fun w t => cPost (dC, dI) tys w (va_A ws sz) t) (va_A ws sz)) 0 0 (va_A ws sz) := by
  refine Met.ofW (cc := cX7_readTest) (maxL := 5) (ret := none) (by decide) rfl ?_
  intro p e s m args below meth c s₁ B0 hml hv
  obtain ⟨rfl, ⟨hsz, hP, hK, hD0, hE⟩, hStr, hR⟩ := hv
  have hx := B0.exec
  have hb := B0.bytes
  have hr := B0.returns
  have hts0 := atoms_spec (ws := ws_u yX7_readTest cX7_readTest 5 none) B0.pre
  have hts : ∀ w ∈ gT, w.before _ s = true := fun w h => hts0 w (List.mem_cons_of_mem _ h)
  have hown : s.vm.findClass RX7 = some m.cls := findClass_of_methodNamed B0.named
  have hlocks := B0.notSynchronized
  subst hsz
  have hD := hD0.self (sz := s.heap.size)
  generalize hAe : va_A ws s.heap.size = A at hD hStr ⊢
  have hA : ∀ q : Nat, s.heap.size ≤ q → A q := fun q h => by rw [← hAe]; exact Or.inr h
  have hw : tW (dC, dI) tys κ B A s ws s.heap [] := ⟨hK, hP, hD, va_S.rf, hT⟩
  have hM : Sm [(6, 1), (7, 2), (9, 2), (9, 3)] [38] κ ws ws := Sm.rf
  clear hP hK hD hD0 hts0
  have hl := lv_entry ([.ref a0, .int a1]) (n := 5) (Nat.le_of_ble_eq_true rfl)
  rw [lg_entry_eq]
  generalize (lg_sl ([.ref a0, .int a1]) ++ List.replicate (5 - (lg_sl ([.ref a0, .int a1])).length) Slot.unset).toArray = ls at hl ⊢
  have hl : lv_has ls 5 [(0, .ref a0), (1, .int a1)] := hl
  refine t_start (fun QQ hQ => ?_)
  refine lv_iconst (v := 0) hx hb dX7_readTest_0 (by decide) ?_
  refine lv_istore_n (lv' := [(2, .int 0), (0, .ref a0), (1, .int a1)]) hx hb dX7_readTest_1 rfl hl (by decide) rfl (fun ls hl => ?_)
  refine lv_aload_n hx hb dX7_readTest_2 rfl (lv_at hl 1 rfl) ?_
  refine lv_iload_n hx hb dX7_readTest_3 rfl (lv_at hl 2 rfl) ?_
  refine t_callv (va_runV (As := [.int a1]) (rest := []) ⟨hx, hb, hml, hown, hts⟩ (t_X7_readFact_10 l dC dI tys κ B ws hw.2.2.2.2 aK aV a0 k_a0 a1 (by omega) (by omega) f0 k_f0 f_a0_X7_0 f1 k_f1 f_a0_X7_1 s.heap.size) (cwV 1 hts (gUV tw_683 tw_685 ts_0_13 tw_5 tw_686) rfl rfl rfl (by decide +kernel) ⟨(Nat.le_of_ble_eq_true rfl), (Nat.le_of_ble_eq_true rfl)⟩) ⟨cPreS.blind, t_recv hw (ci := 7) k_a0 rfl rfl, cPreS.use hw.2.1 hw.1 hw.2.2.1 hE hStr hR hw.2.2.2.1 (hw.free hA)⟩ rfl rfl hl.1 rfl (lv_room (Nat.le_of_ble_eq_true rfl)) dX7_readTest_4 ⟨(Nat.le_of_ble_eq_true rfl), (Nat.le_of_ble_eq_true rfl)⟩) hw hA (fun _ h => h.1) (fun w_1 H locs hp hw => ?_)
  obtain ⟨_, hm⟩ := hp
  have hM := hM.trans hm (by decide) (by decide)
  have f_a0_X7_0 := hm.1 _ _ _ _ f_a0_X7_0 (by decide)
  have f_a0_X7_1 := hm.1 _ _ _ _ f_a0_X7_1 (by decide)
  refine lv_iconst (v := 0) hx hb dX7_readTest_7 (by decide) ?_
  refine lv_istore_n (lv' := [(3, .int 0), (2, .int 0), (0, .ref a0), (1, .int a1)]) hx hb dX7_readTest_8 rfl hl (by decide) rfl (fun ls hl => ?_)
  have J9 : ∀ (n : Nat) (H : Heap) (locs : List Loc) (ls : Array Slot), (∃ (w9 : va_W) (p9_l2 : Int32) (p9_l3 : Int32), tW (dC, dI) tys κ B A s w9 H locs ∧ Sm [(6, 1), (7, 2), (9, 2), (9, 3)] [38] κ ws w9 ∧ 0 ≤ p9_l2.toInt ∧ p9_l2.toInt ≤ 1 ∧ 0 ≤ p9_l3.toInt ∧ p9_l3.toInt ≤ 401 ∧ fld w9 a0 7 0 (.ref f0) ∧ fld w9 a0 7 1 (.ref f1) ∧ lv_has ls 5 [(0, .ref a0), (1, .int a1), (2, .int p9_l2), (3, .int p9_l3)] ∧ (401 - p9_l3.toInt).toNat = n) → W p l e (headSpec (ws_u yX7_readTest cX7_readTest 5 none) ({ frames := 9, cells := 0, slots := 0, locals := 206 })).room s m ([.ref a0, .int a1] : List Value).toArray below meth c H locs 0 0 QQ (F0 m 9 ls []) := by
    refine loopT _ ?_
    intro n_9 H locs ls hI ih_9
    obtain ⟨w9, p9_l2, p9_l3, hw, hM, l_p9_l2, h_p9_l2, l_p9_l3, h_p9_l3, f_a0_X7_0, f_a0_X7_1, hl, hn_9⟩ := hI
    refine lv_iload_n hx hb dX7_readTest_9 rfl (lv_at hl 3 rfl) ?_
    refine lv_sipush (v := 400) hx hb dX7_readTest_10 (by decide) ?_
    have J96 : ∀ (H : Heap) (locs : List Loc) (ls : Array Slot) (w96 : va_W), tW (dC, dI) tys κ B A s w96 H locs → Sm [(6, 1), (7, 2), (9, 2), (9, 3)] [38] κ ws w96 → fld w96 a0 7 0 (.ref f0) → fld w96 a0 7 1 (.ref f1) → lv_has ls 5 [(0, .ref a0), (1, .int a1), (2, .int p9_l2), (3, .int p9_l3)] → W p l e (headSpec (ws_u yX7_readTest cX7_readTest 5 none) ({ frames := 9, cells := 0, slots := 0, locals := 206 })).room s m ([.ref a0, .int a1] : List Value).toArray below meth c H locs 0 0 QQ (F0 m 96 ls []) := by
      intro H locs ls w96 hw hM f_a0_X7_0 f_a0_X7_1 hl
      refine lv_iload_n hx hb dX7_readTest_96 rfl (lv_at hl 2 rfl) ?_
      refine lv_if_eq (tgt := 109) hx hb dX7_readTest_97 (by decide) (fun c_97 => ?_) (fun c_97 => ?_)
      · simp only [fa_lt, fa_le, fa_eq, li_0] at c_97
        rw [hQ]
        refine W.widen (k := 0) (n := 0) (Nat.le_refl _) (Nat.le_refl _) ?_
        exact W.vret hx hb hr (fun t ht hW => ⟨⟨w96, rfl, ⟨hw.2.2.2.2, hM⟩, by rw [ht]; exact hw.2.1, va_K.moved hW.alike hw.1, hw.2.2.1⟩, hw.2.2.2.1.F ht⟩) hw.2.2.2.1.2.2 dX7_readTest_109
      · simp only [fa_lt, fa_le, fa_eq, li_0] at c_97
        refine lv_aload_n hx hb dX7_readTest_100 rfl (lv_at hl 0 rfl) ?_
        refine t_getk (ci := 7) (C := RX7) (T := TX7) (N := 3) hx hb hts iX7 hown hw rfl 1 (by decide) (hts _ tw_167) (fun _ h9 => h9) dX7_readTest_101 f_a0_X7_1 ?_
        refine lv_bipush (v := (-23)) hx hb dX7_readTest_104 (by decide) ?_
        refine t_callv (va_runV (As := [.int (-23)]) (rest := []) ⟨hx, hb, hml, hown, hts⟩ (t_X6_add l dC dI tys κ B w96 hw.2.2.2.2 f1 k_f1 (-23) H.size) (cwV 1 hts (gUV tw_660 tw_661 tw_662 tw_6 tw_663) rfl rfl rfl (by decide +kernel) ⟨(Nat.le_of_ble_eq_true rfl), (Nat.le_of_ble_eq_true rfl)⟩) ⟨cPre.blind, t_recv hw (ci := 6) k_f1 rfl rfl, cPre.use hw.2.1 hw.1 hw.2.2.1 hE⟩ rfl rfl hl.1 rfl (lv_room (Nat.le_of_ble_eq_true rfl)) dX7_readTest_106 ⟨(Nat.le_of_ble_eq_true rfl), (Nat.le_of_ble_eq_true rfl)⟩) hw hA (fun _ h => h.1) (fun w_2 H locs hp hw => ?_)
        obtain ⟨_, hm⟩ := hp
        have hM := hM.trans hm (by decide) (by decide)
        have f_a0_X7_0 := hm.1 _ _ _ _ f_a0_X7_0 (by decide)
        have f_a0_X7_1 := hm.1 _ _ _ _ f_a0_X7_1 (by decide)
        rw [hQ]
        refine W.widen (k := 0) (n := 0) (Nat.le_refl _) (Nat.le_refl _) ?_
        exact W.vret hx hb hr (fun t ht hW => ⟨⟨w_2, rfl, ⟨hw.2.2.2.2, hM⟩, by rw [ht]; exact hw.2.1, va_K.moved hW.alike hw.1, hw.2.2.1⟩, hw.2.2.2.1.F ht⟩) hw.2.2.2.1.2.2 dX7_readTest_109
    refine lv_icmp_ge (tgt := 96) hx hb dX7_readTest_13 (by decide) (fun c_13 => ?_) (fun c_13 => ?_)
    · simp only [fa_lt, fa_le, fa_eq, li_400] at c_13
      exact J96 _ _ _ w9 hw hM f_a0_X7_0 f_a0_X7_1 (lv_sub hl [0, 1, 2, 3] rfl)
    · simp only [fa_lt, fa_le, fa_eq, li_400] at c_13
      refine lv_aload_n hx hb dX7_readTest_16 rfl (lv_at hl 0 rfl) ?_
      refine t_getk (ci := 7) (C := RX7) (T := TX7) (N := 3) hx hb hts iX7 hown hw rfl 0 (by decide) (hts _ tw_166) (fun _ h9 => h9) dX7_readTest_17 f_a0_X7_0 ?_
      refine va_ldcS hx hb hown hR.2.1 dX7_readTest_20 ?_
      refine t_calli (va_runV (As := [.ref (aK 1)]) (rest := []) ⟨hx, hb, hml, hown, hts⟩ (t_X9_takeWord l dC dI tys κ B w9 hw.2.2.2.2 aK aV f0 k_f0 1 (by decide) H.size) (cwV 1 hts (gUV tw_643 tw_506 tw_507 tw_2 tw_508) rfl rfl rfl (by decide +kernel) ⟨(Nat.le_of_ble_eq_true rfl), (Nat.le_of_ble_eq_true rfl)⟩) ⟨cPreS.blind, t_recv hw (ci := 9) k_f0 rfl rfl, cPreS.use hw.2.1 hw.1 hw.2.2.1 hE hStr hR hw.2.2.2.1 (hw.free hA)⟩ rfl rfl hl.1 rfl (lv_room (Nat.le_of_ble_eq_true rfl)) dX7_readTest_22 ⟨(Nat.le_of_ble_eq_true rfl), (Nat.le_of_ble_eq_true rfl)⟩) hw hA (fun _ _ h => h.1) (fun v22 w_3 H locs hp hw => ?_)
      obtain ⟨_, hm⟩ := hp
      have l_v22 := i32_lo v22
      have h_v22 := i32_hi v22
      have hM := hM.trans hm (by decide) (by decide)
      have f_a0_X7_0 := hm.1 _ _ _ _ f_a0_X7_0 (by decide)
      have f_a0_X7_1 := hm.1 _ _ _ _ f_a0_X7_1 (by decide)
      refine lv_istore (lv' := [(4, .int v22), (0, .ref a0), (1, .int a1), (2, .int p9_l2), (3, .int p9_l3)]) hx hb dX7_readTest_25 hl (by decide) rfl (fun ls hl => ?_)
      refine lv_iload hx hb dX7_readTest_27 (lv_at hl 0 rfl) ?_
      refine lv_iconst (v := (-1)) hx hb dX7_readTest_29 (by decide) ?_
      refine lv_icmp_ne (tgt := 36) hx hb dX7_readTest_30 (by decide) (fun c_30 => ?_) (fun c_30 => ?_)
      · simp only [fa_lt, fa_le, fa_eq, li_m1] at c_30
        refine lv_iload hx hb dX7_readTest_36 (lv_at hl 0 rfl) ?_
        refine lv_iconst (v := 1) hx hb dX7_readTest_38 (by decide) ?_
        have J55 : ∀ (H : Heap) (locs : List Loc) (ls : Array Slot) (w55 : va_W), tW (dC, dI) tys κ B A s w55 H locs → Sm [(6, 1), (7, 2), (9, 2), (9, 3)] [38] κ ws w55 → fld w55 a0 7 0 (.ref f0) → fld w55 a0 7 1 (.ref f1) → lv_has ls 5 [(0, .ref a0), (1, .int a1), (2, .int p9_l2), (3, .int p9_l3), (4, .int v22)] → W p l e (headSpec (ws_u yX7_readTest cX7_readTest 5 none) ({ frames := 9, cells := 0, slots := 0, locals := 206 })).room s m ([.ref a0, .int a1] : List Value).toArray below meth c H locs 0 0 QQ (F0 m 55 ls []) := by
          intro H locs ls w55 hw hM f_a0_X7_0 f_a0_X7_1 hl
          refine lv_iload_n hx hb dX7_readTest_55 rfl (lv_at hl 2 rfl) ?_
          have J70 : ∀ (H : Heap) (locs : List Loc) (ls : Array Slot) (w70 : va_W) (p70_s0 : Int32), tW (dC, dI) tys κ B A s w70 H locs → Sm [(6, 1), (7, 2), (9, 2), (9, 3)] [38] κ ws w70 → 0 ≤ p70_s0.toInt → p70_s0.toInt ≤ 1 → fld w70 a0 7 0 (.ref f0) → fld w70 a0 7 1 (.ref f1) → lv_has ls 5 [(0, .ref a0), (1, .int a1), (2, .int p9_l2), (3, .int p9_l3), (4, .int v22)] → W p l e (headSpec (ws_u yX7_readTest cX7_readTest 5 none) ({ frames := 9, cells := 0, slots := 0, locals := 206 })).room s m ([.ref a0, .int a1] : List Value).toArray below meth c H locs 0 0 QQ (F0 m 70 ls [.int p70_s0]) := by
            intro H locs ls w70 p70_s0 hw hM l_p70_s0 h_p70_s0 f_a0_X7_0 f_a0_X7_1 hl
            refine lv_istore_n (lv' := [(2, .int p70_s0), (0, .ref a0), (1, .int a1), (3, .int p9_l3), (4, .int v22)]) hx hb dX7_readTest_70 rfl hl (by decide) rfl (fun ls hl => ?_)
            refine lv_aload_n hx hb dX7_readTest_71 rfl (lv_at hl 1 rfl) ?_
            refine lv_iload_n hx hb dX7_readTest_72 rfl (lv_at hl 2 rfl) ?_
            refine t_callv (va_runV (As := [.int a1]) (rest := []) ⟨hx, hb, hml, hown, hts⟩ (t_X7_readFact_10 l dC dI tys κ B w70 hw.2.2.2.2 aK aV a0 k_a0 a1 (by omega) (by omega) f0 k_f0 f_a0_X7_0 f1 k_f1 f_a0_X7_1 H.size) (cwV 1 hts (gUV tw_683 tw_685 ts_0_13 tw_5 tw_686) rfl rfl rfl (by decide +kernel) ⟨(Nat.le_of_ble_eq_true rfl), (Nat.le_of_ble_eq_true rfl)⟩) ⟨cPreS.blind, t_recv hw (ci := 7) k_a0 rfl rfl, cPreS.use hw.2.1 hw.1 hw.2.2.1 hE hStr hR hw.2.2.2.1 (hw.free hA)⟩ rfl rfl hl.1 rfl (lv_room (Nat.le_of_ble_eq_true rfl)) dX7_readTest_73 ⟨(Nat.le_of_ble_eq_true rfl), (Nat.le_of_ble_eq_true rfl)⟩) hw hA (fun _ h => h.1) (fun w_4 H locs hp hw => ?_)
            obtain ⟨_, hm⟩ := hp
            have hM := hM.trans hm (by decide) (by decide)
            have f_a0_X7_0 := hm.1 _ _ _ _ f_a0_X7_0 (by decide)
            have f_a0_X7_1 := hm.1 _ _ _ _ f_a0_X7_1 (by decide)
            refine lv_iload hx hb dX7_readTest_76 (lv_at hl 4 rfl) ?_
            have J90 : ∀ (H : Heap) (locs : List Loc) (ls : Array Slot) (w90 : va_W), tW (dC, dI) tys κ B A s w90 H locs → Sm [(6, 1), (7, 2), (9, 2), (9, 3)] [38] κ ws w90 → fld w90 a0 7 0 (.ref f0) → fld w90 a0 7 1 (.ref f1) → lv_has ls 5 [(0, .ref a0), (1, .int a1), (2, .int p70_s0), (3, .int p9_l3), (4, .int v22)] → W p l e (headSpec (ws_u yX7_readTest cX7_readTest 5 none) ({ frames := 9, cells := 0, slots := 0, locals := 206 })).room s m ([.ref a0, .int a1] : List Value).toArray below meth c H locs 0 0 QQ (F0 m 90 ls []) := by
              intro H locs ls w90 hw hM f_a0_X7_0 f_a0_X7_1 hl
              obtain ⟨v90, e_v90⟩ : ∃ y : Int32, y = p9_l3 + 1 := ⟨_, rfl⟩
              refine lv_iinc (v := v90) (lv' := [(3, .int v90), (0, .ref a0), (1, .int a1), (2, .int p70_s0), (4, .int v22)]) hx hb dX7_readTest_90 hl (k := 3) rfl e_v90.symm (by decide) rfl (fun ls hl => ?_)
              have e_v90 : v90.toInt = p9_l3.toInt + 1 := ad_i e_v90 rfl li_1 (by omega) (by omega)
              refine lv_goto (tgt := 9) hx hb dX7_readTest_93 (by decide) ?_
              exact ih_9 _ _ _ _ (by omega) ⟨w90, p70_s0, v90, hw, hM, (by omega), (by omega), (by omega), (by omega), f_a0_X7_0, f_a0_X7_1, (lv_sub hl [1, 2, 3, 0] rfl), rfl⟩
            refine lv_if_ne (tgt := 90) hx hb dX7_readTest_78 (by decide) (fun c_78 => ?_) (fun c_78 => ?_)
            · simp only [fa_lt, fa_le, fa_eq, li_0] at c_78
              exact J90 _ _ _ w_4 hw hM f_a0_X7_0 f_a0_X7_1 (lv_sub hl [1, 2, 0, 3, 4] rfl)
            · simp only [fa_lt, fa_le, fa_eq, li_0] at c_78
              refine lv_aload_n hx hb dX7_readTest_81 rfl (lv_at hl 1 rfl) ?_
              refine t_getk (ci := 7) (C := RX7) (T := TX7) (N := 3) hx hb hts iX7 hown hw rfl 1 (by decide) (hts _ tw_167) (fun _ h9 => h9) dX7_readTest_82 f_a0_X7_1 ?_
              refine lv_bipush (v := (-22)) hx hb dX7_readTest_85 (by decide) ?_
              refine t_callv (va_runV (As := [.int (-22)]) (rest := []) ⟨hx, hb, hml, hown, hts⟩ (t_X6_add l dC dI tys κ B w_4 hw.2.2.2.2 f1 k_f1 (-22) H.size) (cwV 1 hts (gUV tw_660 tw_661 tw_662 tw_6 tw_663) rfl rfl rfl (by decide +kernel) ⟨(Nat.le_of_ble_eq_true rfl), (Nat.le_of_ble_eq_true rfl)⟩) ⟨cPre.blind, t_recv hw (ci := 6) k_f1 rfl rfl, cPre.use hw.2.1 hw.1 hw.2.2.1 hE⟩ rfl rfl hl.1 rfl (lv_room (Nat.le_of_ble_eq_true rfl)) dX7_readTest_87 ⟨(Nat.le_of_ble_eq_true rfl), (Nat.le_of_ble_eq_true rfl)⟩) hw hA (fun _ h => h.1) (fun w_5 H locs hp hw => ?_)
              obtain ⟨_, hm⟩ := hp
              have hM := hM.trans hm (by decide) (by decide)
              have f_a0_X7_0 := hm.1 _ _ _ _ f_a0_X7_0 (by decide)
              have f_a0_X7_1 := hm.1 _ _ _ _ f_a0_X7_1 (by decide)
              exact J90 _ _ _ w_5 hw hM f_a0_X7_0 f_a0_X7_1 (lv_sub hl [1, 2, 0, 3, 4] rfl)
          have J65 : ∀ (H : Heap) (locs : List Loc) (ls : Array Slot) (w65 : va_W), tW (dC, dI) tys κ B A s w65 H locs → Sm [(6, 1), (7, 2), (9, 2), (9, 3)] [38] κ ws w65 → fld w65 a0 7 0 (.ref f0) → fld w65 a0 7 1 (.ref f1) → lv_has ls 5 [(0, .ref a0), (1, .int a1), (2, .int p9_l2), (3, .int p9_l3), (4, .int v22)] → W p l e (headSpec (ws_u yX7_readTest cX7_readTest 5 none) ({ frames := 9, cells := 0, slots := 0, locals := 206 })).room s m ([.ref a0, .int a1] : List Value).toArray below meth c H locs 0 0 QQ (F0 m 65 ls []) := by
            intro H locs ls w65 hw hM f_a0_X7_0 f_a0_X7_1 hl
            refine lv_iconst (v := 1) hx hb dX7_readTest_65 (by decide) ?_
            refine lv_goto (tgt := 70) hx hb dX7_readTest_66 (by decide) ?_
            exact J70 _ _ _ w65 1 hw hM (by decide) (by decide) f_a0_X7_0 f_a0_X7_1 (lv_sub hl [0, 1, 2, 3, 4] rfl)
          refine lv_if_ne (tgt := 65) hx hb dX7_readTest_56 (by decide) (fun c_56 => ?_) (fun c_56 => ?_)
          · simp only [fa_lt, fa_le, fa_eq, li_0] at c_56
            exact J65 _ _ _ w55 hw hM f_a0_X7_0 f_a0_X7_1 (lv_sub hl [0, 1, 2, 3, 4] rfl)
          · simp only [fa_lt, fa_le, fa_eq, li_0] at c_56
            refine lv_iload hx hb dX7_readTest_59 (lv_at hl 4 rfl) ?_
            refine lv_iconst (v := 1) hx hb dX7_readTest_61 (by decide) ?_
            refine lv_icmp_ne (tgt := 69) hx hb dX7_readTest_62 (by decide) (fun c_62 => ?_) (fun c_62 => ?_)
            · simp only [fa_lt, fa_le, fa_eq, li_1] at c_62
              refine lv_iconst (v := 0) hx hb dX7_readTest_69 (by decide) ?_
              exact J70 _ _ _ w55 0 hw hM (by decide) (by decide) f_a0_X7_0 f_a0_X7_1 (lv_sub hl [0, 1, 2, 3, 4] rfl)
            · simp only [fa_lt, fa_le, fa_eq, li_1] at c_62
              exact J65 _ _ _ w55 hw hM f_a0_X7_0 f_a0_X7_1 (lv_sub hl [0, 1, 2, 3, 4] rfl)
        refine lv_icmp_ne (tgt := 55) hx hb dX7_readTest_39 (by decide) (fun c_39 => ?_) (fun c_39 => ?_)
        · simp only [fa_lt, fa_le, fa_eq, li_1] at c_39
          exact J55 _ _ _ w_3 hw hM f_a0_X7_0 f_a0_X7_1 (lv_sub hl [1, 2, 3, 4, 0] rfl)
        · simp only [fa_lt, fa_le, fa_eq, li_1] at c_39
          refine lv_iload_n hx hb dX7_readTest_42 rfl (lv_at hl 3 rfl) ?_
          refine lv_if_eq (tgt := 55) hx hb dX7_readTest_43 (by decide) (fun c_43 => ?_) (fun c_43 => ?_)
          · simp only [fa_lt, fa_le, fa_eq, li_0] at c_43
            exact J55 _ _ _ w_3 hw hM f_a0_X7_0 f_a0_X7_1 (lv_sub hl [1, 2, 3, 4, 0] rfl)
          · simp only [fa_lt, fa_le, fa_eq, li_0] at c_43
            refine lv_aload_n hx hb dX7_readTest_46 rfl (lv_at hl 1 rfl) ?_
            refine t_getk (ci := 7) (C := RX7) (T := TX7) (N := 3) hx hb hts iX7 hown hw rfl 1 (by decide) (hts _ tw_167) (fun _ h9 => h9) dX7_readTest_47 f_a0_X7_1 ?_
            refine lv_bipush (v := (-23)) hx hb dX7_readTest_50 (by decide) ?_
            refine t_callv (va_runV (As := [.int (-23)]) (rest := []) ⟨hx, hb, hml, hown, hts⟩ (t_X6_add l dC dI tys κ B w_3 hw.2.2.2.2 f1 k_f1 (-23) H.size) (cwV 1 hts (gUV tw_660 tw_661 tw_662 tw_6 tw_663) rfl rfl rfl (by decide +kernel) ⟨(Nat.le_of_ble_eq_true rfl), (Nat.le_of_ble_eq_true rfl)⟩) ⟨cPre.blind, t_recv hw (ci := 6) k_f1 rfl rfl, cPre.use hw.2.1 hw.1 hw.2.2.1 hE⟩ rfl rfl hl.1 rfl (lv_room (Nat.le_of_ble_eq_true rfl)) dX7_readTest_52 ⟨(Nat.le_of_ble_eq_true rfl), (Nat.le_of_ble_eq_true rfl)⟩) hw hA (fun _ h => h.1) (fun w_6 H locs hp hw => ?_)
            obtain ⟨_, hm⟩ := hp
            have hM := hM.trans hm (by decide) (by decide)
            have f_a0_X7_0 := hm.1 _ _ _ _ f_a0_X7_0 (by decide)
            have f_a0_X7_1 := hm.1 _ _ _ _ f_a0_X7_1 (by decide)
            exact J55 _ _ _ w_6 hw hM f_a0_X7_0 f_a0_X7_1 (lv_sub hl [1, 2, 3, 4, 0] rfl)
      · simp only [fa_lt, fa_le, fa_eq, li_m1] at c_30
        refine lv_goto (tgt := 96) hx hb dX7_readTest_33 (by decide) ?_
        exact J96 _ _ _ w_3 hw hM f_a0_X7_0 f_a0_X7_1 (lv_sub hl [1, 2, 3, 4] rfl)
  exact J9 _ _ _ _ ⟨w_1, 0, 0, hw, hM, (by decide), (by decide), (by decide), (by decide), f_a0_X7_0, f_a0_X7_1, (lv_sub hl [2, 3, 1, 0] rfl), rfl⟩
set_option maxHeartbeats 4000000 in
set_option maxRecDepth 100000 in
theorem t_X7_readFact_9 (l : Launch) (dC : Nat → ClassId) (dI : Nat → Nat → Nat) (tys : List (ClassId × FieldType)) (κ : tK) (B : Nat) (ws : va_W) (hT : Ty κ tys B ws) (aK aV : Nat → Nat) (a0 : Nat) (k_a0 : κ a0 = some 7) (a1 : Int32) (l_a1 : 9 ≤ a1.toInt) (h_a1 : a1.toInt ≤ 9) (f0 : Nat) (k_f0 : κ f0 = some 9) (f_a0_X7_0 : fld ws a0 7 0 (.ref f0)) (f1 : Nat) (k_f1 : κ f1 = some 6) (f_a0_X7_1 : fld ws a0 7 1 (.ref f1)) (sz : Nat) : Met l yX7_readFact (ws_u yX7_readFact cX7_readFact 6 none) ({ frames := 10, cells := 0, slots := 0, locals := 230 }) (va_Pc [.ref a0, .int a1] (cPreS (dC, dI) aK aV tys ws sz)) (va_Qv (fun (w : va_W) => Ty κ tys B w ∧ Sm [(6, 1), (7, 2), (9, 2), (9, 3)] [38] κ ws w) (fun w t => cPost (dC, dI) tys w (va_A ws sz) t) (va_A ws sz)) 0 0 (va_A ws sz) := by
  refine Met.ofW (cc := cX7_readFact) (maxL := 6) (ret := none) (by decide) rfl ?_
  intro p e s m args below meth c s₁ B0 hml hv
  obtain ⟨rfl, ⟨hsz, hP, hK, hD0, hE⟩, hStr, hR⟩ := hv
  have hx := B0.exec
  have hb := B0.bytes
  have hr := B0.returns
  have hts0 := atoms_spec (ws := ws_u yX7_readFact cX7_readFact 6 none) B0.pre
  have hts : ∀ w ∈ gT, w.before _ s = true := fun w h => hts0 w (List.mem_cons_of_mem _ h)
  have hown : s.vm.findClass RX7 = some m.cls := findClass_of_methodNamed B0.named
  have hlocks := B0.notSynchronized
  subst hsz
  have hD := hD0.self (sz := s.heap.size)
  generalize hAe : va_A ws s.heap.size = A at hD hStr ⊢
  have hA : ∀ q : Nat, s.heap.size ≤ q → A q := fun q h => by rw [← hAe]; exact Or.inr h
  have hw : tW (dC, dI) tys κ B A s ws s.heap [] := ⟨hK, hP, hD, va_S.rf, hT⟩
  have hM : Sm [(6, 1), (7, 2), (9, 2), (9, 3)] [38] κ ws ws := Sm.rf
  clear hP hK hD hD0 hts0
  have hl := lv_entry ([.ref a0, .int a1]) (n := 6) (Nat.le_of_ble_eq_true rfl)
  rw [lg_entry_eq]
  generalize (lg_sl ([.ref a0, .int a1]) ++ List.replicate (6 - (lg_sl ([.ref a0, .int a1])).length) Slot.unset).toArray = ls at hl ⊢
  have hl : lv_has ls 6 [(0, .ref a0), (1, .int a1)] := hl
  refine t_start (fun QQ hQ => ?_)
  refine lv_aload_n hx hb dX7_readFact_0 rfl (lv_at hl 0 rfl) ?_
  refine t_getk (ci := 7) (C := RX7) (T := TX7) (N := 3) hx hb hts iX7 hown hw rfl 0 (by decide) (hts _ tw_166) (fun _ h9 => h9) dX7_readFact_1 f_a0_X7_0 ?_
  refine t_geti (ci := 9) (C := RX9) (T := TX9) (N := 4) hx hb hts iX9 hown hw k_f0 rfl rfl rfl 2 (by decide) (hts _ tw_39) (fun _ h9 => h9) dX7_readFact_4 rfl (fun v4 l_v4 h_v4 f_f0_X9_2 => ?_)
  have l_v4 : 0 ≤ v4.toInt := l_v4
  have h_v4 : v4.toInt ≤ 400 := h_v4
  refine lv_istore_n (lv' := [(2, .int v4), (0, .ref a0), (1, .int a1)]) hx hb dX7_readFact_7 rfl hl (by decide) rfl (fun ls hl => ?_)
  refine lv_aload_n hx hb dX7_readFact_8 rfl (lv_at hl 1 rfl) ?_
  refine t_getk (ci := 7) (C := RX7) (T := TX7) (N := 3) hx hb hts iX7 hown hw rfl 0 (by decide) (hts _ tw_166) (fun _ h9 => h9) dX7_readFact_9 f_a0_X7_0 ?_
  refine va_ldcS hx hb hown hR.2.2.2.1 dX7_readFact_12 ?_
  refine t_calli (va_runV (As := [.ref (aK 3)]) (rest := []) ⟨hx, hb, hml, hown, hts⟩ (t_X9_takeWord l dC dI tys κ B ws hw.2.2.2.2 aK aV f0 k_f0 3 (by decide) s.heap.size) (cwV 1 hts (gUV tw_643 tw_506 tw_507 tw_2 tw_508) rfl rfl rfl (by decide +kernel) ⟨(Nat.le_of_ble_eq_true rfl), (Nat.le_of_ble_eq_true rfl)⟩) ⟨cPreS.blind, t_recv hw (ci := 9) k_f0 rfl rfl, cPreS.use hw.2.1 hw.1 hw.2.2.1 hE hStr hR hw.2.2.2.1 (hw.free hA)⟩ rfl rfl hl.1 rfl (lv_room (Nat.le_of_ble_eq_true rfl)) dX7_readFact_14 ⟨(Nat.le_of_ble_eq_true rfl), (Nat.le_of_ble_eq_true rfl)⟩) hw hA (fun _ _ h => h.1) (fun v14 w_1 H locs hp hw => ?_)
  obtain ⟨_, hm⟩ := hp
  have l_v14 := i32_lo v14
  have h_v14 := i32_hi v14
  have hM := hM.trans hm (by decide) (by decide)
  have f_a0_X7_0 := hm.1 _ _ _ _ f_a0_X7_0 (by decide)
  have f_a0_X7_1 := hm.1 _ _ _ _ f_a0_X7_1 (by decide)
  refine lv_iconst (v := (-1)) hx hb dX7_readFact_17 (by decide) ?_
  refine lv_icmp_eq (tgt := 25) hx hb dX7_readFact_18 (by decide) (fun c_18 => ?_) (fun c_18 => ?_)
  · simp only [fa_lt, fa_le, fa_eq, li_m1] at c_18
    refine lv_iconst (v := 0) hx hb dX7_readFact_25 (by decide) ?_
    refine lv_istore_n (lv' := [(3, .int 0), (2, .int v4), (0, .ref a0), (1, .int a1)]) hx hb dX7_readFact_26 rfl hl (by decide) rfl (fun ls hl => ?_)
    refine lv_iload_n hx hb dX7_readFact_27 rfl (lv_at hl 0 rfl) ?_
    refine lv_if_ne (tgt := 47) hx hb dX7_readFact_28 (by decide) (fun c_28 => absurd c_28 (by decide)) (fun _ => ?_)
    refine lv_aload_n hx hb dX7_readFact_31 rfl (lv_at hl 2 rfl) ?_
    refine t_getk (ci := 7) (C := RX7) (T := TX7) (N := 3) hx hb hts iX7 hown hw rfl 0 (by decide) (hts _ tw_166) (fun _ h9 => h9) dX7_readFact_32 f_a0_X7_0 ?_
    refine lv_bipush (v := 91) hx hb dX7_readFact_35 (by decide) ?_
    refine t_calli (va_runV (As := [.int 91]) (rest := []) ⟨hx, hb, hml, hown, hts⟩ (t_X9_takeSign l dC dI tys κ B w_1 hw.2.2.2.2 f0 k_f0 91 (by decide) (by decide) H.size) (cwV 1 hts (gUV tw_673 tw_603 tw_604 tw_2 tw_605) rfl rfl rfl (by decide +kernel) ⟨(Nat.le_of_ble_eq_true rfl), (Nat.le_of_ble_eq_true rfl)⟩) ⟨cPre.blind, t_recv hw (ci := 9) k_f0 rfl rfl, cPre.use hw.2.1 hw.1 hw.2.2.1 hE⟩ rfl rfl hl.1 rfl (lv_room (Nat.le_of_ble_eq_true rfl)) dX7_readFact_37 ⟨(Nat.le_of_ble_eq_true rfl), (Nat.le_of_ble_eq_true rfl)⟩) hw hA (fun _ _ h => h.2.2.1) (fun v37 w_2 H locs hp hw => ?_)
    obtain ⟨l_v37, h_v37, _, hm⟩ := hp
    have hM := hM.trans hm (by decide) (by decide)
    have f_a0_X7_0 := hm.1 _ _ _ _ f_a0_X7_0 (by decide)
    have f_a0_X7_1 := hm.1 _ _ _ _ f_a0_X7_1 (by decide)
    refine lv_if_eq (tgt := 47) hx hb dX7_readFact_40 (by decide) (fun c_40 => ?_) (fun c_40 => ?_)
    · simp only [fa_lt, fa_le, fa_eq, li_0] at c_40
      refine lv_iconst (v := 0) hx hb dX7_readFact_47 (by decide) ?_
      refine lv_istore (lv' := [(4, .int 0), (3, .int 0), (2, .int v4), (0, .ref a0), (1, .int a1)]) hx hb dX7_readFact_48 hl (by decide) rfl (fun ls hl => ?_)
      refine lv_iload_n hx hb dX7_readFact_50 rfl (lv_at hl 1 rfl) ?_
      refine lv_if_ne (tgt := 59) hx hb dX7_readFact_51 (by decide) (fun c_51 => absurd c_51 (by decide)) (fun _ => ?_)
      refine lv_iload hx hb dX7_readFact_54 (lv_at hl 0 rfl) ?_
      refine lv_if_eq (tgt := 77) hx hb dX7_readFact_56 (by decide) (fun _ => ?_) (fun c_56 => absurd c_56 (by decide))
      refine lv_iload_n hx hb dX7_readFact_77 rfl (lv_at hl 1 rfl) ?_
      refine lv_if_eq (tgt := 100) hx hb dX7_readFact_78 (by decide) (fun _ => ?_) (fun c_78 => absurd c_78 (by decide))
      refine lv_iload hx hb dX7_readFact_100 (lv_at hl 0 rfl) ?_
      refine lv_if_eq (tgt := 142) hx hb dX7_readFact_102 (by decide) (fun _ => ?_) (fun c_102 => absurd c_102 (by decide))
      refine lv_aload_n hx hb dX7_readFact_142 rfl (lv_at hl 3 rfl) ?_
      refine t_callv (va_runV (As := []) (rest := []) ⟨hx, hb, hml, hown, hts⟩ (t_X7_readSum l dC dI tys κ B w_2 hw.2.2.2.2 aK aV a0 k_a0 f0 k_f0 f_a0_X7_0 f1 k_f1 f_a0_X7_1 H.size) (cwV 0 hts (gUV tw_649 tw_651 ts_0_8 tw_5 tw_652) rfl rfl rfl (by decide +kernel) ⟨(Nat.le_of_ble_eq_true rfl), (Nat.le_of_ble_eq_true rfl)⟩) ⟨cPreS.blind, t_recv hw (ci := 7) k_a0 rfl rfl, cPreS.use hw.2.1 hw.1 hw.2.2.1 hE hStr hR hw.2.2.2.1 (hw.free hA)⟩ rfl rfl hl.1 rfl (lv_room (Nat.le_of_ble_eq_true rfl)) dX7_readFact_143 ⟨(Nat.le_of_ble_eq_true rfl), (Nat.le_of_ble_eq_true rfl)⟩) hw hA (fun _ h => h.1) (fun w_3 H locs hp hw => ?_)
      obtain ⟨_, hm⟩ := hp
      have hM := hM.trans hm (by decide) (by decide)
      have f_a0_X7_0 := hm.1 _ _ _ _ f_a0_X7_0 (by decide)
      have f_a0_X7_1 := hm.1 _ _ _ _ f_a0_X7_1 (by decide)
      refine lv_aload_n hx hb dX7_readFact_146 rfl (lv_at hl 3 rfl) ?_
      refine t_calli (va_runV (As := []) (rest := []) ⟨hx, hb, hml, hown, hts⟩ (t_X7_readSign l dC dI tys κ B w_3 hw.2.2.2.2 a0 k_a0 f0 k_f0 f_a0_X7_0 H.size) (cwV 0 hts (gUV tw_688 tw_690 ts_0_14 tw_5 tw_691) rfl rfl rfl (by decide +kernel) ⟨(Nat.le_of_ble_eq_true rfl), (Nat.le_of_ble_eq_true rfl)⟩) ⟨cPre.blind, t_recv hw (ci := 7) k_a0 rfl rfl, cPre.use hw.2.1 hw.1 hw.2.2.1 hE⟩ rfl rfl hl.1 rfl (lv_room (Nat.le_of_ble_eq_true rfl)) dX7_readFact_147 ⟨(Nat.le_of_ble_eq_true rfl), (Nat.le_of_ble_eq_true rfl)⟩) hw hA (fun _ _ h => h.2.2.1) (fun v147 w_4 H locs hp hw => ?_)
      obtain ⟨l_v147, h_v147, _, hm⟩ := hp
      have hM := hM.trans hm (by decide) (by decide)
      have f_a0_X7_0 := hm.1 _ _ _ _ f_a0_X7_0 (by decide)
      have f_a0_X7_1 := hm.1 _ _ _ _ f_a0_X7_1 (by decide)
      refine lv_istore (lv' := [(5, .int v147), (4, .int 0), (3, .int 0), (2, .int v4), (0, .ref a0), (1, .int a1)]) hx hb dX7_readFact_150 hl (by decide) rfl (fun ls hl => ?_)
      refine lv_aload_n hx hb dX7_readFact_152 rfl (lv_at hl 4 rfl) ?_
      refine t_callv (va_runV (As := []) (rest := []) ⟨hx, hb, hml, hown, hts⟩ (t_X7_readSum l dC dI tys κ B w_4 hw.2.2.2.2 aK aV a0 k_a0 f0 k_f0 f_a0_X7_0 f1 k_f1 f_a0_X7_1 H.size) (cwV 0 hts (gUV tw_649 tw_651 ts_0_8 tw_5 tw_652) rfl rfl rfl (by decide +kernel) ⟨(Nat.le_of_ble_eq_true rfl), (Nat.le_of_ble_eq_true rfl)⟩) ⟨cPreS.blind, t_recv hw (ci := 7) k_a0 rfl rfl, cPreS.use hw.2.1 hw.1 hw.2.2.1 hE hStr hR hw.2.2.2.1 (hw.free hA)⟩ rfl rfl hl.1 rfl (lv_room (Nat.le_of_ble_eq_true rfl)) dX7_readFact_153 ⟨(Nat.le_of_ble_eq_true rfl), (Nat.le_of_ble_eq_true rfl)⟩) hw hA (fun _ h => h.1) (fun w_5 H locs hp hw => ?_)
      obtain ⟨_, hm⟩ := hp
      have hM := hM.trans hm (by decide) (by decide)
      have f_a0_X7_0 := hm.1 _ _ _ _ f_a0_X7_0 (by decide)
      have f_a0_X7_1 := hm.1 _ _ _ _ f_a0_X7_1 (by decide)
      refine lv_aload_n hx hb dX7_readFact_156 rfl (lv_at hl 4 rfl) ?_
      refine t_getk (ci := 7) (C := RX7) (T := TX7) (N := 3) hx hb hts iX7 hown hw rfl 1 (by decide) (hts _ tw_167) (fun _ h9 => h9) dX7_readFact_157 f_a0_X7_1 ?_
      refine lv_iload hx hb dX7_readFact_160 (lv_at hl 0 rfl) ?_
      refine t_callv (va_runV (As := [.int v147]) (rest := []) ⟨hx, hb, hml, hown, hts⟩ (t_X6_add l dC dI tys κ B w_5 hw.2.2.2.2 f1 k_f1 v147 H.size) (cwV 1 hts (gUV tw_660 tw_661 tw_662 tw_6 tw_663) rfl rfl rfl (by decide +kernel) ⟨(Nat.le_of_ble_eq_true rfl), (Nat.le_of_ble_eq_true rfl)⟩) ⟨cPre.blind, t_recv hw (ci := 6) k_f1 rfl rfl, cPre.use hw.2.1 hw.1 hw.2.2.1 hE⟩ rfl rfl hl.1 rfl (lv_room (Nat.le_of_ble_eq_true rfl)) dX7_readFact_162 ⟨(Nat.le_of_ble_eq_true rfl), (Nat.le_of_ble_eq_true rfl)⟩) hw hA (fun _ h => h.1) (fun w_6 H locs hp hw => ?_)
      obtain ⟨_, hm⟩ := hp
      have hM := hM.trans hm (by decide) (by decide)
      have f_a0_X7_0 := hm.1 _ _ _ _ f_a0_X7_0 (by decide)
      have f_a0_X7_1 := hm.1 _ _ _ _ f_a0_X7_1 (by decide)
      rw [hQ]
      refine W.widen (k := 0) (n := 0) (Nat.le_refl _) (Nat.le_refl _) ?_
      exact W.vret hx hb hr (fun t ht hW => ⟨⟨w_6, rfl, ⟨hw.2.2.2.2, hM⟩, by rw [ht]; exact hw.2.1, va_K.moved hW.alike hw.1, hw.2.2.1⟩, hw.2.2.2.1.F ht⟩) hw.2.2.2.1.2.2 dX7_readFact_165
    · simp only [fa_lt, fa_le, fa_eq, li_0] at c_40
      refine lv_iconst (v := 1) hx hb dX7_readFact_43 (by decide) ?_
      refine lv_goto (tgt := 48) hx hb dX7_readFact_44 (by decide) ?_
      refine lv_istore (lv' := [(4, .int 1), (3, .int 0), (2, .int v4), (0, .ref a0), (1, .int a1)]) hx hb dX7_readFact_48 hl (by decide) rfl (fun ls hl => ?_)
      refine lv_iload_n hx hb dX7_readFact_50 rfl (lv_at hl 1 rfl) ?_
      refine lv_if_ne (tgt := 59) hx hb dX7_readFact_51 (by decide) (fun c_51 => absurd c_51 (by decide)) (fun _ => ?_)
      refine lv_iload hx hb dX7_readFact_54 (lv_at hl 0 rfl) ?_
      refine lv_if_eq (tgt := 77) hx hb dX7_readFact_56 (by decide) (fun c_56 => absurd c_56 (by decide)) (fun _ => ?_)
      refine lv_iload_n hx hb dX7_readFact_59 rfl (lv_at hl 4 rfl) ?_
      refine lv_bipush (v := 10) hx hb dX7_readFact_60 (by decide) ?_
      refine lv_icmp_lt (tgt := 77) hx hb dX7_readFact_62 (by decide) (fun c_62 => ?_) (fun c_62 => by exfalso; simp only [fa_lt, fa_le, fa_eq, li_10] at c_62; omega)
      simp only [fa_lt, fa_le, fa_eq, li_10] at c_62
      refine lv_iload_n hx hb dX7_readFact_77 rfl (lv_at hl 1 rfl) ?_
      refine lv_if_eq (tgt := 100) hx hb dX7_readFact_78 (by decide) (fun _ => ?_) (fun c_78 => absurd c_78 (by decide))
      refine lv_iload hx hb dX7_readFact_100 (lv_at hl 0 rfl) ?_
      refine lv_if_eq (tgt := 142) hx hb dX7_readFact_102 (by decide) (fun c_102 => absurd c_102 (by decide)) (fun _ => ?_)
      refine lv_aload_n hx hb dX7_readFact_105 rfl (lv_at hl 3 rfl) ?_
      refine lv_iload_n hx hb dX7_readFact_106 rfl (lv_at hl 4 rfl) ?_
      refine lv_iconst (v := 1) hx hb dX7_readFact_107 (by decide) ?_
      refine lv_iadd hx hb dX7_readFact_108 ?_
      refine lv_topi (fun v108 e_v108 => ?_)
      have e_v108 : v108.toInt = a1.toInt + 1 := ad_i e_v108 rfl li_1 (by omega) (by omega)
      refine t_callv (va_runV (As := [.int v108]) (rest := []) ⟨hx, hb, hml, hown, hts⟩ (t_X7_readTest_10 l dC dI tys κ B w_2 hw.2.2.2.2 aK aV a0 k_a0 v108 (by omega) (by omega) f0 k_f0 f_a0_X7_0 f1 k_f1 f_a0_X7_1 H.size) (cwV 1 hts (gUV tw_679 tw_681 ts_0_12 tw_5 tw_682) rfl rfl rfl (by decide +kernel) ⟨(Nat.le_of_ble_eq_true rfl), (Nat.le_of_ble_eq_true rfl)⟩) ⟨cPreS.blind, t_recv hw (ci := 7) k_a0 rfl rfl, cPreS.use hw.2.1 hw.1 hw.2.2.1 hE hStr hR hw.2.2.2.1 (hw.free hA)⟩ rfl rfl hl.1 rfl (lv_room (Nat.le_of_ble_eq_true rfl)) dX7_readFact_109 ⟨(Nat.le_of_ble_eq_true rfl), (Nat.le_of_ble_eq_true rfl)⟩) hw hA (fun _ h => h.1) (fun w_7 H locs hp hw => ?_)
      obtain ⟨_, hm⟩ := hp
      have hM := hM.trans hm (by decide) (by decide)
      have f_a0_X7_0 := hm.1 _ _ _ _ f_a0_X7_0 (by decide)
      have f_a0_X7_1 := hm.1 _ _ _ _ f_a0_X7_1 (by decide)
      refine lv_aload_n hx hb dX7_readFact_112 rfl (lv_at hl 3 rfl) ?_
      refine t_getk (ci := 7) (C := RX7) (T := TX7) (N := 3) hx hb hts iX7 hown hw rfl 0 (by decide) (hts _ tw_166) (fun _ h9 => h9) dX7_readFact_113 f_a0_X7_0 ?_
      refine lv_bipush (v := 93) hx hb dX7_readFact_116 (by decide) ?_
      refine t_calli (va_runV (As := [.int 93]) (rest := []) ⟨hx, hb, hml, hown, hts⟩ (t_X9_takeSign l dC dI tys κ B w_7 hw.2.2.2.2 f0 k_f0 93 (by decide) (by decide) H.size) (cwV 1 hts (gUV tw_673 tw_603 tw_604 tw_2 tw_605) rfl rfl rfl (by decide +kernel) ⟨(Nat.le_of_ble_eq_true rfl), (Nat.le_of_ble_eq_true rfl)⟩) ⟨cPre.blind, t_recv hw (ci := 9) k_f0 rfl rfl, cPre.use hw.2.1 hw.1 hw.2.2.1 hE⟩ rfl rfl hl.1 rfl (lv_room (Nat.le_of_ble_eq_true rfl)) dX7_readFact_118 ⟨(Nat.le_of_ble_eq_true rfl), (Nat.le_of_ble_eq_true rfl)⟩) hw hA (fun _ _ h => h.2.2.1) (fun v118 w_8 H locs hp hw => ?_)
      obtain ⟨l_v118, h_v118, _, hm⟩ := hp
      have hM := hM.trans hm (by decide) (by decide)
      have f_a0_X7_0 := hm.1 _ _ _ _ f_a0_X7_0 (by decide)
      have f_a0_X7_1 := hm.1 _ _ _ _ f_a0_X7_1 (by decide)
      refine lv_if_ne (tgt := 165) hx hb dX7_readFact_121 (by decide) (fun c_121 => ?_) (fun c_121 => ?_)
      · simp only [fa_lt, fa_le, fa_eq, li_0] at c_121
        rw [hQ]
        refine W.widen (k := 0) (n := 0) (Nat.le_refl _) (Nat.le_refl _) ?_
        exact W.vret hx hb hr (fun t ht hW => ⟨⟨w_8, rfl, ⟨hw.2.2.2.2, hM⟩, by rw [ht]; exact hw.2.1, va_K.moved hW.alike hw.1, hw.2.2.1⟩, hw.2.2.2.1.F ht⟩) hw.2.2.2.1.2.2 dX7_readFact_165
      · simp only [fa_lt, fa_le, fa_eq, li_0] at c_121
        refine lv_aload_n hx hb dX7_readFact_124 rfl (lv_at hl 3 rfl) ?_
        refine t_getk (ci := 7) (C := RX7) (T := TX7) (N := 3) hx hb hts iX7 hown hw rfl 0 (by decide) (hts _ tw_166) (fun _ h9 => h9) dX7_readFact_125 f_a0_X7_0 ?_
        refine lv_aload_n hx hb dX7_readFact_128 rfl (lv_at hl 3 rfl) ?_
        refine t_getk (ci := 7) (C := RX7) (T := TX7) (N := 3) hx hb hts iX7 hown hw rfl 0 (by decide) (hts _ tw_166) (fun _ h9 => h9) dX7_readFact_129 f_a0_X7_0 ?_
        refine t_geti (ci := 9) (C := RX9) (T := TX9) (N := 4) hx hb hts iX9 hown hw k_f0 rfl rfl rfl 2 (by decide) (hts _ tw_39) (fun _ h9 => h9) dX7_readFact_132 rfl (fun v132 l_v132 h_v132 f_f0_X9_2 => ?_)
        have l_v132 : 0 ≤ v132.toInt := l_v132
        have h_v132 : v132.toInt ≤ 400 := h_v132
        refine lv_iconst (v := 0) hx hb dX7_readFact_135 (by decide) ?_
        refine t_callv (va_runV (As := [.int v132, .int 0]) (rest := []) ⟨hx, hb, hml, hown, hts⟩ (t_X9_fail l dC dI tys κ B w_8 hw.2.2.2.2 f0 k_f0 v132 (by omega) (by omega) 0 (by decide) (by decide) H.size) (cwV 2 hts (gUV tw_644 tw_562 tw_563 tw_2 tw_564) rfl rfl rfl (by decide +kernel) ⟨(Nat.le_of_ble_eq_true rfl), (Nat.le_of_ble_eq_true rfl)⟩) ⟨cPre.blind, t_recv hw (ci := 9) k_f0 rfl rfl, cPre.use hw.2.1 hw.1 hw.2.2.1 hE⟩ rfl rfl hl.1 rfl (lv_room (Nat.le_of_ble_eq_true rfl)) dX7_readFact_136 ⟨(Nat.le_of_ble_eq_true rfl), (Nat.le_of_ble_eq_true rfl)⟩) hw hA (fun _ h => h.1) (fun w_9 H locs hp hw => ?_)
        obtain ⟨_, hm, ⟨v136f, l_v136f, h_v136f, f_f0_X9_3⟩⟩ := hp
        have zc_0 := li_0
        have hM := hM.trans hm (by decide) (by decide)
        have f_a0_X7_0 := hm.1 _ _ _ _ f_a0_X7_0 (by decide)
        have f_a0_X7_1 := hm.1 _ _ _ _ f_a0_X7_1 (by decide)
        have f_f0_X9_2 := hm.1 _ _ _ _ f_f0_X9_2 (by decide)
        refine lv_goto (tgt := 165) hx hb dX7_readFact_139 (by decide) ?_
        rw [hQ]
        refine W.widen (k := 0) (n := 0) (Nat.le_refl _) (Nat.le_refl _) ?_
        exact W.vret hx hb hr (fun t ht hW => ⟨⟨w_9, rfl, ⟨hw.2.2.2.2, hM⟩, by rw [ht]; exact hw.2.1, va_K.moved hW.alike hw.1, hw.2.2.1⟩, hw.2.2.2.1.F ht⟩) hw.2.2.2.1.2.2 dX7_readFact_165
  · simp only [fa_lt, fa_le, fa_eq, li_m1] at c_18
    refine lv_iconst (v := 1) hx hb dX7_readFact_21 (by decide) ?_
    refine lv_goto (tgt := 26) hx hb dX7_readFact_22 (by decide) ?_
    refine lv_istore_n (lv' := [(3, .int 1), (2, .int v4), (0, .ref a0), (1, .int a1)]) hx hb dX7_readFact_26 rfl hl (by decide) rfl (fun ls hl => ?_)
    refine lv_iload_n hx hb dX7_readFact_27 rfl (lv_at hl 0 rfl) ?_
    refine lv_if_ne (tgt := 47) hx hb dX7_readFact_28 (by decide) (fun _ => ?_) (fun c_28 => absurd c_28 (by decide))
    refine lv_iconst (v := 0) hx hb dX7_readFact_47 (by decide) ?_
    refine lv_istore (lv' := [(4, .int 0), (3, .int 1), (2, .int v4), (0, .ref a0), (1, .int a1)]) hx hb dX7_readFact_48 hl (by decide) rfl (fun ls hl => ?_)
    refine lv_iload_n hx hb dX7_readFact_50 rfl (lv_at hl 1 rfl) ?_
    refine lv_if_ne (tgt := 59) hx hb dX7_readFact_51 (by decide) (fun _ => ?_) (fun c_51 => absurd c_51 (by decide))
    refine lv_iload_n hx hb dX7_readFact_59 rfl (lv_at hl 4 rfl) ?_
    refine lv_bipush (v := 10) hx hb dX7_readFact_60 (by decide) ?_
    refine lv_icmp_lt (tgt := 77) hx hb dX7_readFact_62 (by decide) (fun c_62 => ?_) (fun c_62 => by exfalso; simp only [fa_lt, fa_le, fa_eq, li_10] at c_62; omega)
    simp only [fa_lt, fa_le, fa_eq, li_10] at c_62
    refine lv_iload_n hx hb dX7_readFact_77 rfl (lv_at hl 1 rfl) ?_
    refine lv_if_eq (tgt := 100) hx hb dX7_readFact_78 (by decide) (fun c_78 => absurd c_78 (by decide)) (fun _ => ?_)
    refine lv_aload_n hx hb dX7_readFact_81 rfl (lv_at hl 3 rfl) ?_
    refine lv_iload_n hx hb dX7_readFact_82 rfl (lv_at hl 4 rfl) ?_
    refine lv_iconst (v := 1) hx hb dX7_readFact_83 (by decide) ?_
    refine lv_iadd hx hb dX7_readFact_84 ?_
    refine lv_topi (fun v84 e_v84 => ?_)
    have e_v84 : v84.toInt = a1.toInt + 1 := ad_i e_v84 rfl li_1 (by omega) (by omega)
    refine t_callv (va_runV (As := [.int v84]) (rest := []) ⟨hx, hb, hml, hown, hts⟩ (t_X7_readFact_10 l dC dI tys κ B w_1 hw.2.2.2.2 aK aV a0 k_a0 v84 (by omega) (by omega) f0 k_f0 f_a0_X7_0 f1 k_f1 f_a0_X7_1 H.size) (cwV 1 hts (gUV tw_683 tw_685 ts_0_13 tw_5 tw_686) rfl rfl rfl (by decide +kernel) ⟨(Nat.le_of_ble_eq_true rfl), (Nat.le_of_ble_eq_true rfl)⟩) ⟨cPreS.blind, t_recv hw (ci := 7) k_a0 rfl rfl, cPreS.use hw.2.1 hw.1 hw.2.2.1 hE hStr hR hw.2.2.2.1 (hw.free hA)⟩ rfl rfl hl.1 rfl (lv_room (Nat.le_of_ble_eq_true rfl)) dX7_readFact_85 ⟨(Nat.le_of_ble_eq_true rfl), (Nat.le_of_ble_eq_true rfl)⟩) hw hA (fun _ h => h.1) (fun w_10 H locs hp hw => ?_)
    obtain ⟨_, hm⟩ := hp
    have hM := hM.trans hm (by decide) (by decide)
    have f_a0_X7_0 := hm.1 _ _ _ _ f_a0_X7_0 (by decide)
    have f_a0_X7_1 := hm.1 _ _ _ _ f_a0_X7_1 (by decide)
    refine lv_aload_n hx hb dX7_readFact_88 rfl (lv_at hl 3 rfl) ?_
    refine t_getk (ci := 7) (C := RX7) (T := TX7) (N := 3) hx hb hts iX7 hown hw rfl 1 (by decide) (hts _ tw_167) (fun _ h9 => h9) dX7_readFact_89 f_a0_X7_1 ?_
    refine lv_bipush (v := (-24)) hx hb dX7_readFact_92 (by decide) ?_
    refine t_callv (va_runV (As := [.int (-24)]) (rest := []) ⟨hx, hb, hml, hown, hts⟩ (t_X6_add l dC dI tys κ B w_10 hw.2.2.2.2 f1 k_f1 (-24) H.size) (cwV 1 hts (gUV tw_660 tw_661 tw_662 tw_6 tw_663) rfl rfl rfl (by decide +kernel) ⟨(Nat.le_of_ble_eq_true rfl), (Nat.le_of_ble_eq_true rfl)⟩) ⟨cPre.blind, t_recv hw (ci := 6) k_f1 rfl rfl, cPre.use hw.2.1 hw.1 hw.2.2.1 hE⟩ rfl rfl hl.1 rfl (lv_room (Nat.le_of_ble_eq_true rfl)) dX7_readFact_94 ⟨(Nat.le_of_ble_eq_true rfl), (Nat.le_of_ble_eq_true rfl)⟩) hw hA (fun _ h => h.1) (fun w_11 H locs hp hw => ?_)
    obtain ⟨_, hm⟩ := hp
    have hM := hM.trans hm (by decide) (by decide)
    have f_a0_X7_0 := hm.1 _ _ _ _ f_a0_X7_0 (by decide)
    have f_a0_X7_1 := hm.1 _ _ _ _ f_a0_X7_1 (by decide)
    refine lv_goto (tgt := 165) hx hb dX7_readFact_97 (by decide) ?_
    rw [hQ]
    refine W.widen (k := 0) (n := 0) (Nat.le_refl _) (Nat.le_refl _) ?_
    exact W.vret hx hb hr (fun t ht hW => ⟨⟨w_11, rfl, ⟨hw.2.2.2.2, hM⟩, by rw [ht]; exact hw.2.1, va_K.moved hW.alike hw.1, hw.2.2.1⟩, hw.2.2.2.1.F ht⟩) hw.2.2.2.1.2.2 dX7_readFact_165
