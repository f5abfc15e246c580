theorem ts_0_10 : Cond.selects "BoyBishop$RuleReader" ⟨"BoyBishop$RuleReader", "countPart", "(I)V"⟩ ⟨"BoyBishop$RuleReader", "countPart", "(I)V"⟩ ∈ gT := gT_in (List.mem_append_left _ (List.mem_map.mpr ⟨(⟨"BoyBishop$RuleReader", "countPart", "(I)V"⟩, 3), (List.mem_append_left _ (List.mem_of_getElem? (i := 10) rfl)), rfl⟩)) rfl
theorem ts_2_7 : Cond.selects "BoyBishop" ⟨"BoyBishop", "bestRound", "()I"⟩ ⟨"BoyBishop", "bestRound", "()I"⟩ ∈ gT := gT_in (List.mem_append_left _ (List.mem_map.mpr ⟨(⟨"BoyBishop", "bestRound", "()I"⟩, 12), (List.mem_append_right _ (List.mem_append_right _ (List.mem_append_left _ (List.mem_of_getElem? (i := 7) rfl)))), rfl⟩)) rfl
theorem tw_166 : (Jvm.Cond.fieldLink "BoyBishop$RuleReader" (9 : Nat) "BoyBishop$RuleReader" "tape" "LBoyBishop$Tape;") ∈ gT := gT_in (List.mem_append_right _ (List.mem_append_left _ (List.mem_of_getElem? (i := 166) rfl))) rfl
theorem tw_167 : (Jvm.Cond.fieldLink "BoyBishop$RuleReader" (15 : Nat) "BoyBishop$RuleReader" "rule" "LBoyBishop$Rule;") ∈ gT := gT_in (List.mem_append_right _ (List.mem_append_left _ (List.mem_of_getElem? (i := 167) rfl))) rfl
theorem tw_168 : (Jvm.Cond.fieldLink "BoyBishop$RuleReader" (19 : Nat) "BoyBishop$RuleReader" "parts" "I") ∈ gT := gT_in (List.mem_append_right _ (List.mem_append_left _ (List.mem_of_getElem? (i := 168) rfl))) rfl
theorem tw_184 : (Jvm.Cond.fieldLink "BoyBishop$Rule" (28 : Nat) "BoyBishop$Rule" "stepCount" "I") ∈ gT := gT_in (List.mem_append_right _ (List.mem_append_left _ (List.mem_of_getElem? (i := 184) rfl))) rfl
theorem tw_39 : (Jvm.Cond.fieldLink "BoyBishop$RuleReader" (33 : Nat) "BoyBishop$Tape" "place" "I") ∈ gT := gT_in (List.mem_append_right _ (List.mem_append_left _ (List.mem_of_getElem? (i := 39) rfl))) rfl
theorem tw_5 : (Jvm.Cond.initialized "BoyBishop$RuleReader") ∈ gT := gT_in (List.mem_append_right _ (List.mem_append_left _ (List.mem_of_getElem? (i := 5) rfl))) rfl
theorem tw_643 : (Jvm.Cond.methodLink "BoyBishop$RuleReader" (38 : Nat) ({ cls := "BoyBishop$Tape", name := "takeWord", desc := "(Ljava/lang/String;)I" } : Jvm.MethodName)) ∈ gT := gT_in (List.mem_append_right _ (List.mem_append_right _ (List.mem_append_right _ (List.mem_append_left _ (List.mem_of_getElem? (i := 163) rfl))))) rfl
theorem tw_644 : (Jvm.Cond.methodLink "BoyBishop$RuleReader" (42 : Nat) ({ cls := "BoyBishop$Tape", name := "fail", desc := "(II)V" } : Jvm.MethodName)) ∈ gT := gT_in (List.mem_append_right _ (List.mem_append_right _ (List.mem_append_right _ (List.mem_append_left _ (List.mem_of_getElem? (i := 164) rfl))))) rfl
theorem tw_657 : (Jvm.Cond.methodLink "BoyBishop$RuleReader" (102 : Nat) ({ cls := "BoyBishop$Tape", name := "isDigitAt", desc := "(I)Z" } : Jvm.MethodName)) ∈ gT := gT_in (List.mem_append_right _ (List.mem_append_right _ (List.mem_append_right _ (List.mem_append_left _ (List.mem_of_getElem? (i := 177) rfl))))) rfl
theorem tw_658 : (Jvm.Cond.constant "BoyBishop$RuleReader" (106 : Nat) (99999 : Int32)) ∈ gT := gT_in (List.mem_append_right _ (List.mem_append_right _ (List.mem_append_right _ (List.mem_append_left _ (List.mem_of_getElem? (i := 178) rfl))))) rfl
theorem tw_659 : (Jvm.Cond.methodLink "BoyBishop$RuleReader" (107 : Nat) ({ cls := "BoyBishop$Tape", name := "takeNumber", desc := "(II)I" } : Jvm.MethodName)) ∈ gT := gT_in (List.mem_append_right _ (List.mem_append_right _ (List.mem_append_right _ (List.mem_append_left _ (List.mem_of_getElem? (i := 179) rfl))))) rfl
theorem tw_660 : (Jvm.Cond.methodLink "BoyBishop$RuleReader" (80 : Nat) ({ cls := "BoyBishop$Rule", name := "add", desc := "(I)V" } : Jvm.MethodName)) ∈ gT := gT_in (List.mem_append_right _ (List.mem_append_right _ (List.mem_append_right _ (List.mem_append_left _ (List.mem_of_getElem? (i := 180) rfl))))) rfl
theorem tw_661 : (Jvm.Cond.instanceMethod ({ cls := "BoyBishop$Rule", name := "add", desc := "(I)V" } : Jvm.MethodName)) ∈ gT := gT_in (List.mem_append_right _ (List.mem_append_right _ (List.mem_append_right _ (List.mem_append_left _ (List.mem_of_getElem? (i := 181) rfl))))) rfl
theorem tw_662 : (Jvm.Cond.selects "BoyBishop$Rule" ({ cls := "BoyBishop$Rule", name := "add", desc := "(I)V" } : Jvm.MethodName) ({ cls := "BoyBishop$Rule", name := "add", desc := "(I)V" } : Jvm.MethodName)) ∈ gT := gT_in (List.mem_append_right _ (List.mem_append_right _ (List.mem_append_right _ (List.mem_append_left _ (List.mem_of_getElem? (i := 182) rfl))))) rfl
theorem tw_663 : (Jvm.Cond.code ({ cls := "BoyBishop$Rule", name := "add", desc := "(I)V" } : Jvm.MethodName) prog_8_method_3_code (2 : Nat) (Option.none : Option Jvm.ClassFile.FieldType)) ∈ gT := gT_in (List.mem_append_right _ (List.mem_append_right _ (List.mem_append_right _ (List.mem_append_left _ (List.mem_of_getElem? (i := 183) rfl))))) rfl
theorem tw_665 : (Jvm.Cond.methodLink "BoyBishop$RuleReader" (93 : Nat) ({ cls := "BoyBishop$RuleReader", name := "countPart", desc := "(I)V" } : Jvm.MethodName)) ∈ gT := gT_in (List.mem_append_right _ (List.mem_append_right _ (List.mem_append_right _ (List.mem_append_left _ (List.mem_of_getElem? (i := 185) rfl))))) rfl
theorem tw_667 : (Jvm.Cond.instanceMethod ({ cls := "BoyBishop$RuleReader", name := "countPart", desc := "(I)V" } : Jvm.MethodName)) ∈ gT := gT_in (List.mem_append_right _ (List.mem_append_right _ (List.mem_append_right _ (List.mem_append_left _ (List.mem_of_getElem? (i := 187) rfl))))) rfl
theorem tw_668 : (Jvm.Cond.code ({ cls := "BoyBishop$RuleReader", name := "countPart", desc := "(I)V" } : Jvm.MethodName) prog_9_method_9_code (2 : Nat) (Option.none : Option Jvm.ClassFile.FieldType)) ∈ gT := gT_in (List.mem_append_right _ (List.mem_append_right _ (List.mem_append_right _ (List.mem_append_left _ (List.mem_of_getElem? (i := 188) rfl))))) rfl
theorem tw_954 : (Jvm.Cond.methodLink "BoyBishop" (279 : Nat) ({ cls := "BoyBishop$Poll", name := "tryPromises", desc := "(LBoyBishop$Choir;LBoyBishop$Standing;LBoyBishop$Rule;II)V" } : Jvm.MethodName)) ∈ gT := gT_in (List.mem_append_right _ (List.mem_append_right _ (List.mem_append_right _ (List.mem_append_right _ (List.mem_append_left _ (List.mem_of_getElem? (i := 234) rfl)))))) rfl
theorem tw_955 : (Jvm.Cond.instanceMethod ({ cls := "BoyBishop$Poll", name := "tryPromises", desc := "(LBoyBishop$Choir;LBoyBishop$Standing;LBoyBishop$Rule;II)V" } : Jvm.MethodName)) ∈ gT := gT_in (List.mem_append_right _ (List.mem_append_right _ (List.mem_append_right _ (List.mem_append_right _ (List.mem_append_left _ (List.mem_of_getElem? (i := 235) rfl)))))) rfl
theorem tw_956 : (Jvm.Cond.selects "BoyBishop$Poll" ({ cls := "BoyBishop$Poll", name := "tryPromises", desc := "(LBoyBishop$Choir;LBoyBishop$Standing;LBoyBishop$Rule;II)V" } : Jvm.MethodName) ({ cls := "BoyBishop$Poll", name := "tryPromises", desc := "(LBoyBishop$Choir;LBoyBishop$Standing;LBoyBishop$Rule;II)V" } : Jvm.MethodName)) ∈ gT := gT_in (List.mem_append_right _ (List.mem_append_right _ (List.mem_append_right _ (List.mem_append_right _ (List.mem_append_left _ (List.mem_of_getElem? (i := 236) rfl)))))) rfl
theorem tw_957 : (Jvm.Cond.code ({ cls := "BoyBishop$Poll", name := "tryPromises", desc := "(LBoyBishop$Choir;LBoyBishop$Standing;LBoyBishop$Rule;II)V" } : Jvm.MethodName) prog_7_method_16_code (7 : Nat) (Option.none : Option Jvm.ClassFile.FieldType)) ∈ gT := gT_in (List.mem_append_right _ (List.mem_append_right _ (List.mem_append_right _ (List.mem_append_right _ (List.mem_append_left _ (List.mem_of_getElem? (i := 237) rfl)))))) rfl
theorem tw_958 : (Jvm.Cond.methodLink "BoyBishop$Poll" (122 : Nat) ({ cls := "BoyBishop$Poll", name := "hold", desc := "(LBoyBishop$Choir;LBoyBishop$Standing;LBoyBishop$Rule;)V" } : Jvm.MethodName)) ∈ gT := gT_in (List.mem_append_right _ (List.mem_append_right _ (List.mem_append_right _ (List.mem_append_right _ (List.mem_append_left _ (List.mem_of_getElem? (i := 238) rfl)))))) rfl
theorem tw_959 : (Jvm.Cond.methodLink "BoyBishop" (283 : Nat) ({ cls := "BoyBishop$Poll", name := "countRests", desc := "(II)I" } : Jvm.MethodName)) ∈ gT := gT_in (List.mem_append_right _ (List.mem_append_right _ (List.mem_append_right _ (List.mem_append_right _ (List.mem_append_left _ (List.mem_of_getElem? (i := 239) rfl)))))) rfl
theorem tw_960 : (Jvm.Cond.instanceMethod ({ cls := "BoyBishop$Poll", name := "countRests", desc := "(II)I" } : Jvm.MethodName)) ∈ gT := gT_in (List.mem_append_right _ (List.mem_append_right _ (List.mem_append_right _ (List.mem_append_right _ (List.mem_append_right _ (List.mem_append_left _ (List.mem_of_getElem? (i := 0) rfl))))))) rfl
theorem tw_961 : (Jvm.Cond.selects "BoyBishop$Poll" ({ cls := "BoyBishop$Poll", name := "countRests", desc := "(II)I" } : Jvm.MethodName) ({ cls := "BoyBishop$Poll", name := "countRests", desc := "(II)I" } : Jvm.MethodName)) ∈ gT := gT_in (List.mem_append_right _ (List.mem_append_right _ (List.mem_append_right _ (List.mem_append_right _ (List.mem_append_right _ (List.mem_append_left _ (List.mem_of_getElem? (i := 1) rfl))))))) rfl
theorem tw_962 : (Jvm.Cond.code ({ cls := "BoyBishop$Poll", name := "countRests", desc := "(II)I" } : Jvm.MethodName) prog_7_method_17_code (5 : Nat) (Option.some Jvm.ClassFile.FieldType.int)) ∈ gT := gT_in (List.mem_append_right _ (List.mem_append_right _ (List.mem_append_right _ (List.mem_append_right _ (List.mem_append_right _ (List.mem_append_left _ (List.mem_of_getElem? (i := 2) rfl))))))) rfl
theorem tw_971 : (Jvm.Cond.methodLink "BoyBishop" (286 : Nat) ({ cls := "BoyBishop$Poll", name := "firstRest", desc := "(II)I" } : Jvm.MethodName)) ∈ gT := gT_in (List.mem_append_right _ (List.mem_append_right _ (List.mem_append_right _ (List.mem_append_right _ (List.mem_append_right _ (List.mem_append_left _ (List.mem_of_getElem? (i := 11) rfl))))))) rfl
theorem tw_972 : (Jvm.Cond.instanceMethod ({ cls := "BoyBishop$Poll", name := "firstRest", desc := "(II)I" } : Jvm.MethodName)) ∈ gT := gT_in (List.mem_append_right _ (List.mem_append_right _ (List.mem_append_right _ (List.mem_append_right _ (List.mem_append_right _ (List.mem_append_left _ (List.mem_of_getElem? (i := 12) rfl))))))) rfl
theorem tw_973 : (Jvm.Cond.selects "BoyBishop$Poll" ({ cls := "BoyBishop$Poll", name := "firstRest", desc := "(II)I" } : Jvm.MethodName) ({ cls := "BoyBishop$Poll", name := "firstRest", desc := "(II)I" } : Jvm.MethodName)) ∈ gT := gT_in (List.mem_append_right _ (List.mem_append_right _ (List.mem_append_right _ (List.mem_append_right _ (List.mem_append_right _ (List.mem_append_left _ (List.mem_of_getElem? (i := 13) rfl))))))) rfl
theorem tw_974 : (Jvm.Cond.code ({ cls := "BoyBishop$Poll", name := "firstRest", desc := "(II)I" } : Jvm.MethodName) prog_7_method_18_code (4 : Nat) (Option.some Jvm.ClassFile.FieldType.int)) ∈ gT := gT_in (List.mem_append_right _ (List.mem_append_right _ (List.mem_append_right _ (List.mem_append_right _ (List.mem_append_right _ (List.mem_append_left _ (List.mem_of_getElem? (i := 14) rfl))))))) rfl
theorem tw_979 : (Jvm.Cond.methodLink "BoyBishop" (289 : Nat) ({ cls := "BoyBishop", name := "bestRound", desc := "()I" } : Jvm.MethodName)) ∈ gT := gT_in (List.mem_append_right _ (List.mem_append_right _ (List.mem_append_right _ (List.mem_append_right _ (List.mem_append_right _ (List.mem_append_left _ (List.mem_of_getElem? (i := 19) rfl))))))) rfl
theorem tw_981 : (Jvm.Cond.instanceMethod ({ cls := "BoyBishop", name := "bestRound", desc := "()I" } : Jvm.MethodName)) ∈ gT := gT_in (List.mem_append_right _ (List.mem_append_right _ (List.mem_append_right _ (List.mem_append_right _ (List.mem_append_right _ (List.mem_append_left _ (List.mem_of_getElem? (i := 21) rfl))))))) rfl
theorem tw_982 : (Jvm.Cond.code ({ cls := "BoyBishop", name := "bestRound", desc := "()I" } : Jvm.MethodName) prog_1_method_27_code (8 : Nat) (Option.some Jvm.ClassFile.FieldType.int)) ∈ gT := gT_in (List.mem_append_right _ (List.mem_append_right _ (List.mem_append_right _ (List.mem_append_right _ (List.mem_append_right _ (List.mem_append_left _ (List.mem_of_getElem? (i := 22) rfl))))))) rfl
theorem dX11_rests_0 : decode cX11_rests 0 = .ok (.aload_n 0, 1) := by decide +kernel
theorem dX11_rests_1 : decode cX11_rests 1 = .ok (.iload_n 1, 1) := by decide +kernel
theorem dX11_rests_2 : decode cX11_rests 2 = .ok (.invokevirtual 231, 3) := by decide +kernel
theorem dX11_rests_5 : decode cX11_rests 5 = .ok (.ifCond .eq 25, 3) := by decide +kernel
theorem dX11_rests_8 : decode cX11_rests 8 = .ok (.aload_n 0, 1) := by decide +kernel
theorem dX11_rests_9 : decode cX11_rests 9 = .ok (.iload_n 2, 1) := by decide +kernel
theorem dX11_rests_10 : decode cX11_rests 10 = .ok (.invokevirtual 231, 3) := by decide +kernel
theorem dX11_rests_13 : decode cX11_rests 13 = .ok (.ifCond .eq 17, 3) := by decide +kernel
theorem dX11_rests_16 : decode cX11_rests 16 = .ok (.iload_n 1, 1) := by decide +kernel
theorem dX11_rests_17 : decode cX11_rests 17 = .ok (.iload_n 2, 1) := by decide +kernel
theorem dX11_rests_18 : decode cX11_rests 18 = .ok (.if_icmp .eq 12, 3) := by decide +kernel
theorem dX11_rests_21 : decode cX11_rests 21 = .ok (.iload_n 3, 1) := by decide +kernel
theorem dX11_rests_22 : decode cX11_rests 22 = .ok (.ifCond .lt 8, 3) := by decide +kernel
theorem dX11_rests_25 : decode cX11_rests 25 = .ok (.iload_n 3, 1) := by decide +kernel
theorem dX11_rests_26 : decode cX11_rests 26 = .ok (.iconst 2, 1) := by decide +kernel
theorem dX11_rests_27 : decode cX11_rests 27 = .ok (.if_icmp .le 5, 3) := by decide +kernel
theorem dX11_rests_30 : decode cX11_rests 30 = .ok (.iconst (-1), 1) := by decide +kernel
theorem dX11_rests_31 : decode cX11_rests 31 = .ok (.ireturn, 1) := by decide +kernel
theorem dX11_rests_32 : decode cX11_rests 32 = .ok (.aload_n 0, 1) := by decide +kernel
theorem dX11_rests_33 : decode cX11_rests 33 = .ok (.getfield 92, 3) := by decide +kernel
theorem dX11_rests_36 : decode cX11_rests 36 = .ok (.aload_n 0, 1) := by decide +kernel
theorem dX11_rests_37 : decode cX11_rests 37 = .ok (.getfield 45, 3) := by decide +kernel
theorem dX11_rests_40 : decode cX11_rests 40 = .ok (.getfield 115, 3) := by decide +kernel
theorem dX11_rests_43 : decode cX11_rests 43 = .ok (.invokevirtual 245, 3) := by decide +kernel
theorem dX11_rests_46 : decode cX11_rests 46 = .ok (.aload_n 0, 1) := by decide +kernel
theorem dX11_rests_47 : decode cX11_rests 47 = .ok (.getfield 67, 3) := by decide +kernel
theorem dX11_rests_50 : decode cX11_rests 50 = .ok (.aload_n 0, 1) := by decide +kernel
theorem dX11_rests_51 : decode cX11_rests 51 = .ok (.getfield 45, 3) := by decide +kernel
theorem dX11_rests_54 : decode cX11_rests 54 = .ok (.getfield 53, 3) := by decide +kernel
theorem dX11_rests_57 : decode cX11_rests 57 = .ok (.aload_n 0, 1) := by decide +kernel
theorem dX11_rests_58 : decode cX11_rests 58 = .ok (.getfield 92, 3) := by decide +kernel
theorem dX11_rests_61 : decode cX11_rests 61 = .ok (.aload_n 0, 1) := by decide +kernel
theorem dX11_rests_62 : decode cX11_rests 62 = .ok (.invokevirtual 205, 3) := by decide +kernel
theorem dX11_rests_65 : decode cX11_rests 65 = .ok (.iload_n 1, 1) := by decide +kernel
theorem dX11_rests_66 : decode cX11_rests 66 = .ok (.iload_n 2, 1) := by decide +kernel
theorem dX11_rests_67 : decode cX11_rests 67 = .ok (.invokevirtual 279, 3) := by decide +kernel
theorem dX11_rests_70 : decode cX11_rests 70 = .ok (.iload_n 3, 1) := by decide +kernel
theorem dX11_rests_71 : decode cX11_rests 71 = .ok (.ifCond .ne 13, 3) := by decide +kernel
theorem dX11_rests_74 : decode cX11_rests 74 = .ok (.aload_n 0, 1) := by decide +kernel
theorem dX11_rests_75 : decode cX11_rests 75 = .ok (.getfield 67, 3) := by decide +kernel
theorem dX11_rests_78 : decode cX11_rests 78 = .ok (.iload_n 1, 1) := by decide +kernel
theorem dX11_rests_79 : decode cX11_rests 79 = .ok (.iload_n 2, 1) := by decide +kernel
theorem dX11_rests_80 : decode cX11_rests 80 = .ok (.invokevirtual 283, 3) := by decide +kernel
theorem dX11_rests_83 : decode cX11_rests 83 = .ok (.ireturn, 1) := by decide +kernel
theorem dX11_rests_84 : decode cX11_rests 84 = .ok (.aload_n 0, 1) := by decide +kernel
theorem dX11_rests_85 : decode cX11_rests 85 = .ok (.getfield 67, 3) := by decide +kernel
theorem dX11_rests_88 : decode cX11_rests 88 = .ok (.iload_n 1, 1) := by decide +kernel
theorem dX11_rests_89 : decode cX11_rests 89 = .ok (.iload_n 2, 1) := by decide +kernel
theorem dX11_rests_90 : decode cX11_rests 90 = .ok (.invokevirtual 286, 3) := by decide +kernel
theorem dX11_rests_93 : decode cX11_rests 93 = .ok (.istore 4, 2) := by decide +kernel
theorem dX11_rests_95 : decode cX11_rests 95 = .ok (.iload 4, 2) := by decide +kernel
theorem dX11_rests_97 : decode cX11_rests 97 = .ok (.iconst (-1), 1) := by decide +kernel
theorem dX11_rests_98 : decode cX11_rests 98 = .ok (.if_icmp .ne 6, 3) := by decide +kernel
theorem dX11_rests_101 : decode cX11_rests 101 = .ok (.bipush (-2), 2) := by decide +kernel
theorem dX11_rests_103 : decode cX11_rests 103 = .ok (.ireturn, 1) := by decide +kernel
theorem dX11_rests_104 : decode cX11_rests 104 = .ok (.iconst 5, 1) := by decide +kernel
theorem dX11_rests_105 : decode cX11_rests 105 = .ok (.iload_n 3, 1) := by decide +kernel
theorem dX11_rests_106 : decode cX11_rests 106 = .ok (.iconst 1, 1) := by decide +kernel
theorem dX11_rests_107 : decode cX11_rests 107 = .ok (.if_icmp .ne 10, 3) := by decide +kernel
theorem dX11_rests_110 : decode cX11_rests 110 = .ok (.iload 4, 2) := by decide +kernel
theorem dX11_rests_112 : decode cX11_rests 112 = .ok (.iconst 5, 1) := by decide +kernel
theorem dX11_rests_113 : decode cX11_rests 113 = .ok (.idiv, 1) := by decide +kernel
theorem dX11_rests_114 : decode cX11_rests 114 = .ok (.goto 7, 3) := by decide +kernel
theorem dX11_rests_117 : decode cX11_rests 117 = .ok (.iload 4, 2) := by decide +kernel
theorem dX11_rests_119 : decode cX11_rests 119 = .ok (.iconst 5, 1) := by decide +kernel
theorem dX11_rests_120 : decode cX11_rests 120 = .ok (.irem, 1) := by decide +kernel
theorem dX11_rests_121 : decode cX11_rests 121 = .ok (.imul, 1) := by decide +kernel
theorem dX11_rests_122 : decode cX11_rests 122 = .ok (.ireturn, 1) := by decide +kernel
theorem dX11_round_0 : decode cX11_round 0 = .ok (.aload_n 0, 1) := by decide +kernel
theorem dX11_round_1 : decode cX11_round 1 = .ok (.getfield 45, 3) := by decide +kernel
theorem dX11_round_4 : decode cX11_round 4 = .ok (.getfield 53, 3) := by decide +kernel
theorem dX11_round_7 : decode cX11_round 7 = .ok (.getfield 194, 3) := by decide +kernel
theorem dX11_round_10 : decode cX11_round 10 = .ok (.ifCond .eq 12, 3) := by decide +kernel
theorem dX11_round_13 : decode cX11_round 13 = .ok (.iload_n 1, 1) := by decide +kernel
theorem dX11_round_14 : decode cX11_round 14 = .ok (.ifCond .lt 8, 3) := by decide +kernel
theorem dX11_round_17 : decode cX11_round 17 = .ok (.iload_n 1, 1) := by decide +kernel
theorem dX11_round_18 : decode cX11_round 18 = .ok (.iconst 2, 1) := by decide +kernel
theorem dX11_round_19 : decode cX11_round 19 = .ok (.if_icmp .le 5, 3) := by decide +kernel
theorem dX11_round_22 : decode cX11_round 22 = .ok (.iconst (-1), 1) := by decide +kernel
theorem dX11_round_23 : decode cX11_round 23 = .ok (.ireturn, 1) := by decide +kernel
theorem dX11_round_24 : decode cX11_round 24 = .ok (.aload_n 0, 1) := by decide +kernel
theorem dX11_round_25 : decode cX11_round 25 = .ok (.invokevirtual 289, 3) := by decide +kernel
theorem dX11_round_28 : decode cX11_round 28 = .ok (.istore_n 2, 1) := by decide +kernel
theorem dX11_round_29 : decode cX11_round 29 = .ok (.iload_n 1, 1) := by decide +kernel
theorem dX11_round_30 : decode cX11_round 30 = .ok (.lookupswitch 40 #[(0, 26), (1, 38)], 26) := by decide +kernel
theorem dX11_round_56 : decode cX11_round 56 = .ok (.aload_n 0, 1) := by decide +kernel
theorem dX11_round_57 : decode cX11_round 57 = .ok (.getfield 45, 3) := by decide +kernel
theorem dX11_round_60 : decode cX11_round 60 = .ok (.getfield 115, 3) := by decide +kernel
theorem dX11_round_63 : decode cX11_round 63 = .ok (.iload_n 2, 1) := by decide +kernel
theorem dX11_round_64 : decode cX11_round 64 = .ok (.invokevirtual 292, 3) := by decide +kernel
theorem dX11_round_67 : decode cX11_round 67 = .ok (.ireturn, 1) := by decide +kernel
theorem dX11_round_68 : decode cX11_round 68 = .ok (.iload_n 2, 1) := by decide +kernel
theorem dX11_round_69 : decode cX11_round 69 = .ok (.ireturn, 1) := by decide +kernel
theorem dX11_round_70 : decode cX11_round 70 = .ok (.aload_n 0, 1) := by decide +kernel
theorem dX11_round_71 : decode cX11_round 71 = .ok (.getfield 45, 3) := by decide +kernel
theorem dX11_round_74 : decode cX11_round 74 = .ok (.getfield 53, 3) := by decide +kernel
theorem dX11_round_77 : decode cX11_round 77 = .ok (.iconst 0, 1) := by decide +kernel
theorem dX11_round_78 : decode cX11_round 78 = .ok (.iload_n 2, 1) := by decide +kernel
theorem dX11_round_79 : decode cX11_round 79 = .ok (.invokevirtual 295, 3) := by decide +kernel
theorem dX11_round_82 : decode cX11_round 82 = .ok (.ireturn, 1) := by decide +kernel
theorem dX5_firstRest_0 : decode cX5_firstRest 0 = .ok (.iconst 0, 1) := by decide +kernel
theorem dX5_firstRest_1 : decode cX5_firstRest 1 = .ok (.istore_n 3, 1) := by decide +kernel
theorem dX5_firstRest_2 : decode cX5_firstRest 2 = .ok (.iload_n 3, 1) := by decide +kernel
theorem dX5_firstRest_3 : decode cX5_firstRest 3 = .ok (.bipush 25, 2) := by decide +kernel
theorem dX5_firstRest_5 : decode cX5_firstRest 5 = .ok (.if_icmp .ge 21, 3) := by decide +kernel
theorem dX5_firstRest_8 : decode cX5_firstRest 8 = .ok (.aload_n 0, 1) := by decide +kernel
theorem dX5_firstRest_9 : decode cX5_firstRest 9 = .ok (.iload_n 3, 1) := by decide +kernel
theorem dX5_firstRest_10 : decode cX5_firstRest 10 = .ok (.iload_n 1, 1) := by decide +kernel
theorem dX5_firstRest_11 : decode cX5_firstRest 11 = .ok (.iload_n 2, 1) := by decide +kernel
theorem dX5_firstRest_12 : decode cX5_firstRest 12 = .ok (.invokevirtual 126, 3) := by decide +kernel
theorem dX5_firstRest_15 : decode cX5_firstRest 15 = .ok (.ifCond .eq 5, 3) := by decide +kernel
theorem dX5_firstRest_18 : decode cX5_firstRest 18 = .ok (.iload_n 3, 1) := by decide +kernel
theorem dX5_firstRest_19 : decode cX5_firstRest 19 = .ok (.ireturn, 1) := by decide +kernel
theorem dX5_firstRest_20 : decode cX5_firstRest 20 = .ok (.iinc 3 1, 3) := by decide +kernel
theorem dX5_firstRest_23 : decode cX5_firstRest 23 = .ok (.goto (-21), 3) := by decide +kernel
theorem dX5_firstRest_26 : decode cX5_firstRest 26 = .ok (.iconst (-1), 1) := by decide +kernel
theorem dX5_firstRest_27 : decode cX5_firstRest 27 = .ok (.ireturn, 1) := by decide +kernel
theorem dX5_tryPromises_0 : decode cX5_tryPromises 0 = .ok (.iconst 0, 1) := by decide +kernel
theorem dX5_tryPromises_1 : decode cX5_tryPromises 1 = .ok (.istore 6, 2) := by decide +kernel
theorem dX5_tryPromises_3 : decode cX5_tryPromises 3 = .ok (.iload 6, 2) := by decide +kernel
theorem dX5_tryPromises_5 : decode cX5_tryPromises 5 = .ok (.bipush 25, 2) := by decide +kernel
theorem dX5_tryPromises_7 : decode cX5_tryPromises 7 = .ok (.if_icmp .ge 53, 3) := by decide +kernel
theorem dX5_tryPromises_10 : decode cX5_tryPromises 10 = .ok (.aload_n 2, 1) := by decide +kernel
theorem dX5_tryPromises_11 : decode cX5_tryPromises 11 = .ok (.getfield 68, 3) := by decide +kernel
theorem dX5_tryPromises_14 : decode cX5_tryPromises 14 = .ok (.iload 4, 2) := by decide +kernel
theorem dX5_tryPromises_16 : decode cX5_tryPromises 16 = .ok (.iconst 5, 1) := by decide +kernel
theorem dX5_tryPromises_17 : decode cX5_tryPromises 17 = .ok (.iload 6, 2) := by decide +kernel
theorem dX5_tryPromises_19 : decode cX5_tryPromises 19 = .ok (.iconst 5, 1) := by decide +kernel
theorem dX5_tryPromises_20 : decode cX5_tryPromises 20 = .ok (.idiv, 1) := by decide +kernel
theorem dX5_tryPromises_21 : decode cX5_tryPromises 21 = .ok (.imul, 1) := by decide +kernel
theorem dX5_tryPromises_22 : decode cX5_tryPromises 22 = .ok (.iastore, 1) := by decide +kernel
theorem dX5_tryPromises_23 : decode cX5_tryPromises 23 = .ok (.aload_n 2, 1) := by decide +kernel
theorem dX5_tryPromises_24 : decode cX5_tryPromises 24 = .ok (.getfield 68, 3) := by decide +kernel
theorem dX5_tryPromises_27 : decode cX5_tryPromises 27 = .ok (.iload 5, 2) := by decide +kernel
theorem dX5_tryPromises_29 : decode cX5_tryPromises 29 = .ok (.iconst 5, 1) := by decide +kernel
theorem dX5_tryPromises_30 : decode cX5_tryPromises 30 = .ok (.iload 6, 2) := by decide +kernel
theorem dX5_tryPromises_32 : decode cX5_tryPromises 32 = .ok (.iconst 5, 1) := by decide +kernel
theorem dX5_tryPromises_33 : decode cX5_tryPromises 33 = .ok (.irem, 1) := by decide +kernel
theorem dX5_tryPromises_34 : decode cX5_tryPromises 34 = .ok (.imul, 1) := by decide +kernel
theorem dX5_tryPromises_35 : decode cX5_tryPromises 35 = .ok (.iastore, 1) := by decide +kernel
theorem dX5_tryPromises_36 : decode cX5_tryPromises 36 = .ok (.aload_n 0, 1) := by decide +kernel
theorem dX5_tryPromises_37 : decode cX5_tryPromises 37 = .ok (.aload_n 1, 1) := by decide +kernel
theorem dX5_tryPromises_38 : decode cX5_tryPromises 38 = .ok (.aload_n 2, 1) := by decide +kernel
theorem dX5_tryPromises_39 : decode cX5_tryPromises 39 = .ok (.aload_n 3, 1) := by decide +kernel
theorem dX5_tryPromises_40 : decode cX5_tryPromises 40 = .ok (.invokevirtual 122, 3) := by decide +kernel
theorem dX5_tryPromises_43 : decode cX5_tryPromises 43 = .ok (.aload_n 0, 1) := by decide +kernel
theorem dX5_tryPromises_44 : decode cX5_tryPromises 44 = .ok (.getfield 27, 3) := by decide +kernel
theorem dX5_tryPromises_47 : decode cX5_tryPromises 47 = .ok (.iload 6, 2) := by decide +kernel
theorem dX5_tryPromises_49 : decode cX5_tryPromises 49 = .ok (.aload_n 0, 1) := by decide +kernel
theorem dX5_tryPromises_50 : decode cX5_tryPromises 50 = .ok (.getfield 82, 3) := by decide +kernel
theorem dX5_tryPromises_53 : decode cX5_tryPromises 53 = .ok (.iastore, 1) := by decide +kernel
theorem dX5_tryPromises_54 : decode cX5_tryPromises 54 = .ok (.iinc 6 1, 3) := by decide +kernel
theorem dX5_tryPromises_57 : decode cX5_tryPromises 57 = .ok (.goto (-54), 3) := by decide +kernel
theorem dX5_tryPromises_60 : decode cX5_tryPromises 60 = .ok (.return_, 1) := by decide +kernel
theorem dX6_add_0 : decode cX6_add 0 = .ok (.aload_n 0, 1) := by decide +kernel
theorem dX6_add_1 : decode cX6_add 1 = .ok (.getfield 28, 3) := by decide +kernel
theorem dX6_add_4 : decode cX6_add 4 = .ok (.aload_n 0, 1) := by decide +kernel
theorem dX6_add_5 : decode cX6_add 5 = .ok (.getfield 9, 3) := by decide +kernel
theorem dX6_add_8 : decode cX6_add 8 = .ok (.arraylength, 1) := by decide +kernel
theorem dX6_add_9 : decode cX6_add 9 = .ok (.if_icmp .ge 23, 3) := by decide +kernel
theorem dX6_add_12 : decode cX6_add 12 = .ok (.aload_n 0, 1) := by decide +kernel
theorem dX6_add_13 : decode cX6_add 13 = .ok (.getfield 9, 3) := by decide +kernel
theorem dX6_add_16 : decode cX6_add 16 = .ok (.aload_n 0, 1) := by decide +kernel
theorem dX6_add_17 : decode cX6_add 17 = .ok (.getfield 28, 3) := by decide +kernel
theorem dX6_add_20 : decode cX6_add 20 = .ok (.iload_n 1, 1) := by decide +kernel
theorem dX6_add_21 : decode cX6_add 21 = .ok (.iastore, 1) := by decide +kernel
theorem dX6_add_22 : decode cX6_add 22 = .ok (.aload_n 0, 1) := by decide +kernel
theorem dX6_add_23 : decode cX6_add 23 = .ok (.dup, 1) := by decide +kernel
theorem dX6_add_24 : decode cX6_add 24 = .ok (.getfield 28, 3) := by decide +kernel
theorem dX6_add_27 : decode cX6_add 27 = .ok (.iconst 1, 1) := by decide +kernel
theorem dX6_add_28 : decode cX6_add 28 = .ok (.iadd, 1) := by decide +kernel
theorem dX6_add_29 : decode cX6_add 29 = .ok (.putfield 28, 3) := by decide +kernel
theorem dX6_add_32 : decode cX6_add 32 = .ok (.return_, 1) := by decide +kernel
theorem dX6_beginClause_0 : decode cX6_beginClause 0 = .ok (.aload_n 0, 1) := by decide +kernel
theorem dX6_beginClause_1 : decode cX6_beginClause 1 = .ok (.getfield 32, 3) := by decide +kernel
theorem dX6_beginClause_4 : decode cX6_beginClause 4 = .ok (.bipush 12, 2) := by decide +kernel
theorem dX6_beginClause_6 : decode cX6_beginClause 6 = .ok (.if_icmp .ge 16, 3) := by decide +kernel
theorem dX6_beginClause_9 : decode cX6_beginClause 9 = .ok (.aload_n 0, 1) := by decide +kernel
theorem dX6_beginClause_10 : decode cX6_beginClause 10 = .ok (.getfield 15, 3) := by decide +kernel
theorem dX6_beginClause_13 : decode cX6_beginClause 13 = .ok (.aload_n 0, 1) := by decide +kernel
theorem dX6_beginClause_14 : decode cX6_beginClause 14 = .ok (.getfield 32, 3) := by decide +kernel
theorem dX6_beginClause_17 : decode cX6_beginClause 17 = .ok (.aload_n 0, 1) := by decide +kernel
theorem dX6_beginClause_18 : decode cX6_beginClause 18 = .ok (.getfield 28, 3) := by decide +kernel
theorem dX6_beginClause_21 : decode cX6_beginClause 21 = .ok (.iastore, 1) := by decide +kernel
theorem dX6_beginClause_22 : decode cX6_beginClause 22 = .ok (.return_, 1) := by decide +kernel
theorem dX6_beginTest_0 : decode cX6_beginTest 0 = .ok (.aload_n 0, 1) := by decide +kernel
theorem dX6_beginTest_1 : decode cX6_beginTest 1 = .ok (.getfield 32, 3) := by decide +kernel
theorem dX6_beginTest_4 : decode cX6_beginTest 4 = .ok (.bipush 12, 2) := by decide +kernel
theorem dX6_beginTest_6 : decode cX6_beginTest 6 = .ok (.if_icmp .ge 16, 3) := by decide +kernel
theorem dX6_beginTest_9 : decode cX6_beginTest 9 = .ok (.aload_n 0, 1) := by decide +kernel
theorem dX6_beginTest_10 : decode cX6_beginTest 10 = .ok (.getfield 18, 3) := by decide +kernel
theorem dX6_beginTest_13 : decode cX6_beginTest 13 = .ok (.aload_n 0, 1) := by decide +kernel
theorem dX6_beginTest_14 : decode cX6_beginTest 14 = .ok (.getfield 32, 3) := by decide +kernel
theorem dX6_beginTest_17 : decode cX6_beginTest 17 = .ok (.aload_n 0, 1) := by decide +kernel
theorem dX6_beginTest_18 : decode cX6_beginTest 18 = .ok (.getfield 28, 3) := by decide +kernel
theorem dX6_beginTest_21 : decode cX6_beginTest 21 = .ok (.iastore, 1) := by decide +kernel
theorem dX6_beginTest_22 : decode cX6_beginTest 22 = .ok (.return_, 1) := by decide +kernel
theorem dX6_clear_0 : decode cX6_clear 0 = .ok (.aload_n 0, 1) := by decide +kernel
theorem dX6_clear_1 : decode cX6_clear 1 = .ok (.iconst 0, 1) := by decide +kernel
theorem dX6_clear_2 : decode cX6_clear 2 = .ok (.putfield 28, 3) := by decide +kernel
theorem dX6_clear_5 : decode cX6_clear 5 = .ok (.aload_n 0, 1) := by decide +kernel
theorem dX6_clear_6 : decode cX6_clear 6 = .ok (.iconst 0, 1) := by decide +kernel
theorem dX6_clear_7 : decode cX6_clear 7 = .ok (.putfield 32, 3) := by decide +kernel
theorem dX6_clear_10 : decode cX6_clear 10 = .ok (.return_, 1) := by decide +kernel
theorem dX6_endClause_0 : decode cX6_endClause 0 = .ok (.aload_n 0, 1) := by decide +kernel
theorem dX6_endClause_1 : decode cX6_endClause 1 = .ok (.getfield 32, 3) := by decide +kernel
theorem dX6_endClause_4 : decode cX6_endClause 4 = .ok (.bipush 12, 2) := by decide +kernel
theorem dX6_endClause_6 : decode cX6_endClause 6 = .ok (.if_icmp .ge 26, 3) := by decide +kernel
theorem dX6_endClause_9 : decode cX6_endClause 9 = .ok (.aload_n 0, 1) := by decide +kernel
theorem dX6_endClause_10 : decode cX6_endClause 10 = .ok (.getfield 21, 3) := by decide +kernel
theorem dX6_endClause_13 : decode cX6_endClause 13 = .ok (.aload_n 0, 1) := by decide +kernel
theorem dX6_endClause_14 : decode cX6_endClause 14 = .ok (.getfield 32, 3) := by decide +kernel
theorem dX6_endClause_17 : decode cX6_endClause 17 = .ok (.aload_n 0, 1) := by decide +kernel
theorem dX6_endClause_18 : decode cX6_endClause 18 = .ok (.getfield 28, 3) := by decide +kernel
theorem dX6_endClause_21 : decode cX6_endClause 21 = .ok (.iastore, 1) := by decide +kernel
theorem dX6_endClause_22 : decode cX6_endClause 22 = .ok (.aload_n 0, 1) := by decide +kernel
theorem dX6_endClause_23 : decode cX6_endClause 23 = .ok (.dup, 1) := by decide +kernel
theorem dX6_endClause_24 : decode cX6_endClause 24 = .ok (.getfield 32, 3) := by decide +kernel
theorem dX6_endClause_27 : decode cX6_endClause 27 = .ok (.iconst 1, 1) := by decide +kernel
theorem dX6_endClause_28 : decode cX6_endClause 28 = .ok (.iadd, 1) := by decide +kernel
theorem dX6_endClause_29 : decode cX6_endClause 29 = .ok (.putfield 32, 3) := by decide +kernel
theorem dX6_endClause_32 : decode cX6_endClause 32 = .ok (.return_, 1) := by decide +kernel
theorem dX7_countPart_0 : decode cX7_countPart 0 = .ok (.aload_n 0, 1) := by decide +kernel
theorem dX7_countPart_1 : decode cX7_countPart 1 = .ok (.dup, 1) := by decide +kernel
theorem dX7_countPart_2 : decode cX7_countPart 2 = .ok (.getfield 19, 3) := by decide +kernel
theorem dX7_countPart_5 : decode cX7_countPart 5 = .ok (.iconst 1, 1) := by decide +kernel
theorem dX7_countPart_6 : decode cX7_countPart 6 = .ok (.iadd, 1) := by decide +kernel
theorem dX7_countPart_7 : decode cX7_countPart 7 = .ok (.putfield 19, 3) := by decide +kernel
theorem dX7_countPart_10 : decode cX7_countPart 10 = .ok (.aload_n 0, 1) := by decide +kernel
theorem dX7_countPart_11 : decode cX7_countPart 11 = .ok (.getfield 19, 3) := by decide +kernel
theorem dX7_countPart_14 : decode cX7_countPart 14 = .ok (.bipush 60, 2) := by decide +kernel
theorem dX7_countPart_16 : decode cX7_countPart 16 = .ok (.if_icmp .le 12, 3) := by decide +kernel
theorem dX7_countPart_19 : decode cX7_countPart 19 = .ok (.aload_n 0, 1) := by decide +kernel
theorem dX7_countPart_20 : decode cX7_countPart 20 = .ok (.getfield 9, 3) := by decide +kernel
theorem dX7_countPart_23 : decode cX7_countPart 23 = .ok (.iload_n 1, 1) := by decide +kernel
theorem dX7_countPart_24 : decode cX7_countPart 24 = .ok (.iconst 3, 1) := by decide +kernel
theorem dX7_countPart_25 : decode cX7_countPart 25 = .ok (.invokevirtual 42, 3) := by decide +kernel
theorem dX7_countPart_28 : decode cX7_countPart 28 = .ok (.return_, 1) := by decide +kernel
theorem dX7_readValue_0 : decode cX7_readValue 0 = .ok (.aload_n 0, 1) := by decide +kernel
theorem dX7_readValue_1 : decode cX7_readValue 1 = .ok (.getfield 9, 3) := by decide +kernel
theorem dX7_readValue_4 : decode cX7_readValue 4 = .ok (.getfield 33, 3) := by decide +kernel
theorem dX7_readValue_7 : decode cX7_readValue 7 = .ok (.istore_n 1, 1) := by decide +kernel
theorem dX7_readValue_8 : decode cX7_readValue 8 = .ok (.aload_n 0, 1) := by decide +kernel
theorem dX7_readValue_9 : decode cX7_readValue 9 = .ok (.getfield 9, 3) := by decide +kernel
theorem dX7_readValue_12 : decode cX7_readValue 12 = .ok (.iload_n 1, 1) := by decide +kernel
theorem dX7_readValue_13 : decode cX7_readValue 13 = .ok (.invokevirtual 102, 3) := by decide +kernel
theorem dX7_readValue_16 : decode cX7_readValue 16 = .ok (.ifCond .eq 23, 3) := by decide +kernel
theorem dX7_readValue_19 : decode cX7_readValue 19 = .ok (.aload_n 0, 1) := by decide +kernel
theorem dX7_readValue_20 : decode cX7_readValue 20 = .ok (.getfield 15, 3) := by decide +kernel
theorem dX7_readValue_23 : decode cX7_readValue 23 = .ok (.aload_n 0, 1) := by decide +kernel
theorem dX7_readValue_24 : decode cX7_readValue 24 = .ok (.getfield 9, 3) := by decide +kernel
theorem dX7_readValue_27 : decode cX7_readValue 27 = .ok (.iconst 0, 1) := by decide +kernel
theorem dX7_readValue_28 : decode cX7_readValue 28 = .ok (.ldc 106, 2) := by decide +kernel
theorem dX7_readValue_30 : decode cX7_readValue 30 = .ok (.invokevirtual 107, 3) := by decide +kernel
theorem dX7_readValue_33 : decode cX7_readValue 33 = .ok (.invokevirtual 80, 3) := by decide +kernel
theorem dX7_readValue_36 : decode cX7_readValue 36 = .ok (.goto 37, 3) := by decide +kernel
theorem dX7_readValue_39 : decode cX7_readValue 39 = .ok (.aload_n 0, 1) := by decide +kernel
theorem dX7_readValue_40 : decode cX7_readValue 40 = .ok (.getfield 9, 3) := by decide +kernel
theorem dX7_readValue_43 : decode cX7_readValue 43 = .ok (.ldc 111, 2) := by decide +kernel
theorem dX7_readValue_45 : decode cX7_readValue 45 = .ok (.invokevirtual 38, 3) := by decide +kernel
theorem dX7_readValue_48 : decode cX7_readValue 48 = .ok (.istore_n 2, 1) := by decide +kernel
theorem dX7_readValue_49 : decode cX7_readValue 49 = .ok (.iload_n 2, 1) := by decide +kernel
theorem dX7_readValue_50 : decode cX7_readValue 50 = .ok (.iconst (-1), 1) := by decide +kernel
theorem dX7_readValue_51 : decode cX7_readValue 51 = .ok (.if_icmp .ne 12, 3) := by decide +kernel
theorem dX7_readValue_54 : decode cX7_readValue 54 = .ok (.aload_n 0, 1) := by decide +kernel
theorem dX7_readValue_55 : decode cX7_readValue 55 = .ok (.getfield 9, 3) := by decide +kernel
theorem dX7_readValue_58 : decode cX7_readValue 58 = .ok (.iload_n 1, 1) := by decide +kernel
theorem dX7_readValue_59 : decode cX7_readValue 59 = .ok (.iconst 0, 1) := by decide +kernel
theorem dX7_readValue_60 : decode cX7_readValue 60 = .ok (.invokevirtual 42, 3) := by decide +kernel
theorem dX7_readValue_63 : decode cX7_readValue 63 = .ok (.aload_n 0, 1) := by decide +kernel
theorem dX7_readValue_64 : decode cX7_readValue 64 = .ok (.getfield 15, 3) := by decide +kernel
theorem dX7_readValue_67 : decode cX7_readValue 67 = .ok (.iconst (-1), 1) := by decide +kernel
theorem dX7_readValue_68 : decode cX7_readValue 68 = .ok (.iload_n 2, 1) := by decide +kernel
theorem dX7_readValue_69 : decode cX7_readValue 69 = .ok (.isub, 1) := by decide +kernel
theorem dX7_readValue_70 : decode cX7_readValue 70 = .ok (.invokevirtual 80, 3) := by decide +kernel
theorem dX7_readValue_73 : decode cX7_readValue 73 = .ok (.aload_n 0, 1) := by decide +kernel
theorem dX7_readValue_74 : decode cX7_readValue 74 = .ok (.iload_n 1, 1) := by decide +kernel
theorem dX7_readValue_75 : decode cX7_readValue 75 = .ok (.invokevirtual 93, 3) := by decide +kernel
theorem dX7_readValue_78 : decode cX7_readValue 78 = .ok (.return_, 1) := by decide +kernel
theorem iX7 : ∀ w ∈ u_ws RX7 TX7 3, w ∈ gT := i_of (by decide +kernel)
theorem li_3 : (3 : Int32).toInt = 3 := by decide
theorem li_99999 : (99999 : Int32).toInt = 99999 := by decide
set_option maxHeartbeats 4000000 in
set_option maxRecDepth 100000 in
theorem t_X5_firstRest (l : Launch) (dC : Nat → ClassId) (dI : Nat → Nat → Nat) (tys : List (ClassId × FieldType)) (κ : tK) (B : Nat) (ws : va_W) (hT : Ty κ tys B ws) (a0 : Nat) (k_a0 : κ a0 = some 5) (a1 : Int32) (l_a1 : 0 ≤ a1.toInt) (h_a1 : a1.toInt ≤ 5) (a2 : Int32) (l_a2 : 0 ≤ a2.toInt) (h_a2 : a2.toInt ≤ 5) (sz : Nat) : Met l yX5_firstRest (ws_u yX5_firstRest cX5_firstRest 4 (some .int)) ({ frames := 2, cells := 0, slots := 0, locals := 52 }) (va_Pc [.ref a0, .int a1, .int a2] (cPre (dC, dI) tys ws sz)) (va_Qi (fun (r : Int32) (w : va_W) => (-1) ≤ r.toInt ∧ r.toInt ≤ 24 ∧ Ty κ tys B w ∧ Sm [] [] κ ws w) (fun w t => cPost (dC, dI) tys w (va_A ws sz) t) (va_A ws sz)) 0 0 (va_A ws sz) := by
  refine Met.ofW (cc := cX5_firstRest) (maxL := 4) (ret := (some .int)) (by decide) rfl ?_
  intro p e s m args below meth c s₁ B0 hml hv
  obtain ⟨rfl, hsz, hP, hK, hD0, hE⟩ := hv
  have hx := B0.exec
  have hb := B0.bytes
  have hr := B0.returns
  have hts0 := atoms_spec (ws := ws_u yX5_firstRest cX5_firstRest 4 (some .int)) B0.pre
  have hts : ∀ w ∈ gT, w.before _ s = true := fun w h => hts0 w (List.mem_cons_of_mem _ h)
  have hown : s.vm.findClass RX5 = some m.cls := findClass_of_methodNamed B0.named
  have hlocks := B0.notSynchronized
  subst hsz
  have hD := hD0.self (sz := s.heap.size)
  generalize hAe : va_A ws s.heap.size = A at hD ⊢
  have hA : ∀ q : Nat, s.heap.size ≤ q → A q := fun q h => by rw [← hAe]; exact Or.inr h
  have hw : tW (dC, dI) tys κ B A s ws s.heap [] := ⟨hK, hP, hD, va_S.rf, hT⟩
  have hM : Sm [] [] κ ws ws := Sm.rf
  clear hP hK hD hD0 hts0
  have hl := lv_entry ([.ref a0, .int a1, .int a2]) (n := 4) (Nat.le_of_ble_eq_true rfl)
  rw [lg_entry_eq]
  generalize (lg_sl ([.ref a0, .int a1, .int a2]) ++ List.replicate (4 - (lg_sl ([.ref a0, .int a1, .int a2])).length) Slot.unset).toArray = ls at hl ⊢
  have hl : lv_has ls 4 [(0, .ref a0), (1, .int a1), (2, .int a2)] := hl
  refine t_start (fun QQ hQ => ?_)
  refine lv_iconst (v := 0) hx hb dX5_firstRest_0 (by decide) ?_
  refine lv_istore_n (lv' := [(3, .int 0), (0, .ref a0), (1, .int a1), (2, .int a2)]) hx hb dX5_firstRest_1 rfl hl (by decide) rfl (fun ls hl => ?_)
  have J2 : ∀ (n : Nat) (H : Heap) (locs : List Loc) (ls : Array Slot), (∃ (w2 : va_W) (p2_l3 : Int32), tW (dC, dI) tys κ B A s w2 H locs ∧ Sm [] [] κ ws w2 ∧ 0 ≤ p2_l3.toInt ∧ p2_l3.toInt ≤ 25 ∧ lv_has ls 4 [(0, .ref a0), (1, .int a1), (2, .int a2), (3, .int p2_l3)] ∧ (25 - p2_l3.toInt).toNat = n) → W p l e (headSpec (ws_u yX5_firstRest cX5_firstRest 4 (some .int)) ({ frames := 2, cells := 0, slots := 0, locals := 52 })).room s m ([.ref a0, .int a1, .int a2] : List Value).toArray below meth c H locs 0 0 QQ (F0 m 2 ls []) := by
    refine loopT _ ?_
    intro n_2 H locs ls hI ih_2
    obtain ⟨w2, p2_l3, hw, hM, l_p2_l3, h_p2_l3, hl, hn_2⟩ := hI
    refine lv_iload_n hx hb dX5_firstRest_2 rfl (lv_at hl 3 rfl) ?_
    refine lv_bipush (v := 25) hx hb dX5_firstRest_3 (by decide) ?_
    refine lv_icmp_ge (tgt := 26) hx hb dX5_firstRest_5 (by decide) (fun c_5 => ?_) (fun c_5 => ?_)
    · simp only [fa_lt, fa_le, fa_eq, li_25] at c_5
      refine lv_iconst (v := (-1)) hx hb dX5_firstRest_26 (by decide) ?_
      rw [hQ]
      refine W.widen (k := 0) (n := 0) (Nat.le_refl _) (Nat.le_refl _) ?_
      exact W.iret (v := (-1)) hx hb hr (fun t ht hW => ⟨⟨(-1), w2, rfl, ⟨(by decide), (by decide), hw.2.2.2.2, hM⟩, by rw [ht]; exact hw.2.1, va_K.moved hW.alike hw.1, hw.2.2.1⟩, hw.2.2.2.1.F ht⟩) hw.2.2.2.1.2.2 dX5_firstRest_27
    · simp only [fa_lt, fa_le, fa_eq, li_25] at c_5
      refine lv_aload_n hx hb dX5_firstRest_8 rfl (lv_at hl 0 rfl) ?_
      refine lv_iload_n hx hb dX5_firstRest_9 rfl (lv_at hl 3 rfl) ?_
      refine lv_iload_n hx hb dX5_firstRest_10 rfl (lv_at hl 1 rfl) ?_
      refine lv_iload_n hx hb dX5_firstRest_11 rfl (lv_at hl 2 rfl) ?_
      refine t_calli (va_runV (As := [.int p2_l3, .int a1, .int a2]) (rest := []) ⟨hx, hb, hml, hown, hts⟩ (t_X5_isRest l dC dI tys κ B w2 hw.2.2.2.2 a0 k_a0 p2_l3 (by omega) (by omega) a1 (by omega) (by omega) a2 (by omega) (by omega) H.size) (cwV 3 hts (gUV tw_963 tw_965 ts_2_5 tw_10 tw_966) rfl rfl rfl (by decide +kernel) ⟨(Nat.le_of_ble_eq_true rfl), (Nat.le_of_ble_eq_true rfl)⟩) ⟨cPre.blind, t_recv hw (ci := 5) k_a0 rfl rfl, cPre.use hw.2.1 hw.1 hw.2.2.1 hE⟩ rfl rfl hl.1 rfl (lv_room (Nat.le_of_ble_eq_true rfl)) dX5_firstRest_12 ⟨(Nat.le_of_ble_eq_true rfl), (Nat.le_of_ble_eq_true rfl)⟩) hw hA (fun _ _ h => h.2.2.1) (fun v12 w_1 H locs hp hw => ?_)
      obtain ⟨l_v12, h_v12, _, hm⟩ := hp
      have hM := hM.trans hm (by decide) (by decide)
      refine lv_if_eq (tgt := 20) hx hb dX5_firstRest_15 (by decide) (fun c_15 => ?_) (fun c_15 => ?_)
      · simp only [fa_lt, fa_le, fa_eq, li_0] at c_15
        obtain ⟨v20, e_v20⟩ : ∃ y : Int32, y = p2_l3 + 1 := ⟨_, rfl⟩
        refine lv_iinc (v := v20) (lv' := [(3, .int v20), (0, .ref a0), (1, .int a1), (2, .int a2)]) hx hb dX5_firstRest_20 hl (k := 3) rfl e_v20.symm (by decide) rfl (fun ls hl => ?_)
        have e_v20 : v20.toInt = p2_l3.toInt + 1 := ad_i e_v20 rfl li_1 (by omega) (by omega)
        refine lv_goto (tgt := 2) hx hb dX5_firstRest_23 (by decide) ?_
        exact ih_2 _ _ _ _ (by omega) ⟨w_1, v20, hw, hM, (by omega), (by omega), (lv_sub hl [1, 2, 3, 0] rfl), rfl⟩
      · simp only [fa_lt, fa_le, fa_eq, li_0] at c_15
        refine lv_iload_n hx hb dX5_firstRest_18 rfl (lv_at hl 3 rfl) ?_
        rw [hQ]
        refine W.widen (k := 0) (n := 0) (Nat.le_refl _) (Nat.le_refl _) ?_
        exact W.iret (v := p2_l3) hx hb hr (fun t ht hW => ⟨⟨p2_l3, w_1, rfl, ⟨(by omega), (by omega), hw.2.2.2.2, hM⟩, by rw [ht]; exact hw.2.1, va_K.moved hW.alike hw.1, hw.2.2.1⟩, hw.2.2.2.1.F ht⟩) hw.2.2.2.1.2.2 dX5_firstRest_19
  exact J2 _ _ _ _ ⟨ws, 0, hw, hM, (by decide), (by decide), (lv_sub hl [1, 2, 3, 0] rfl), rfl⟩
set_option maxHeartbeats 4000000 in
set_option maxRecDepth 100000 in
theorem t_X5_tryPromises (l : Launch) (dC : Nat → ClassId) (dI : Nat → Nat → Nat) (tys : List (ClassId × FieldType)) (κ : tK) (B : Nat) (ws : va_W) (hT : Ty κ tys B ws) (a0 : Nat) (k_a0 : κ a0 = some 5) (a1 : Nat) (k_a1 : κ a1 = some 0) (a2 : Nat) (k_a2 : κ a2 = some 8) (a3 : Option Nat) (k_a3 : ∀ q : Nat, a3 = some q → κ q = some 6) (a4 : Int32) (l_a4 : 0 ≤ a4.toInt) (h_a4 : a4.toInt ≤ 5) (a5 : Int32) (l_a5 : 0 ≤ a5.toInt) (h_a5 : a5.toInt ≤ 5) (sz : Nat) : Met l yX5_tryPromises (ws_u yX5_tryPromises cX5_tryPromises 7 none) ({ frames := 4, cells := 0, slots := 0, locals := 98 }) (va_Pc [.ref a0, .ref a1, .ref a2, va_rf a3, .int a4, .int a5] (cPre (dC, dI) tys ws sz)) (va_Qv (fun (w : va_W) => Ty κ tys B w ∧ Sm [(5, 0), (5, 1), (5, 5)] [33, 34, 35, 36, 37, 42, 44] κ ws w) (fun w t => cPost (dC, dI) tys w (va_A ws sz) t) (va_A ws sz)) 0 0 (va_A ws sz) := by
  refine Met.ofW (cc := cX5_tryPromises) (maxL := 7) (ret := none) (by decide) rfl ?_
  intro p e s m args below meth c s₁ B0 hml hv
  obtain ⟨rfl, hsz, hP, hK, hD0, hE⟩ := hv
  have hx := B0.exec
  have hb := B0.bytes
  have hr := B0.returns
  have hts0 := atoms_spec (ws := ws_u yX5_tryPromises cX5_tryPromises 7 none) B0.pre
  have hts : ∀ w ∈ gT, w.before _ s = true := fun w h => hts0 w (List.mem_cons_of_mem _ h)
  have hown : s.vm.findClass RX5 = some m.cls := findClass_of_methodNamed B0.named
  have hlocks := B0.notSynchronized
  subst hsz
  have hD := hD0.self (sz := s.heap.size)
  generalize hAe : va_A ws s.heap.size = A at hD ⊢
  have hA : ∀ q : Nat, s.heap.size ≤ q → A q := fun q h => by rw [← hAe]; exact Or.inr h
  have hw : tW (dC, dI) tys κ B A s ws s.heap [] := ⟨hK, hP, hD, va_S.rf, hT⟩
  have hM : Sm [(5, 0), (5, 1), (5, 5)] [33, 34, 35, 36, 37, 42, 44] κ ws ws := Sm.rf
  clear hP hK hD hD0 hts0
  rcases a3 with _ | a3
  · have hl := lv_entry ([.ref a0, .ref a1, .ref a2, .null, .int a4, .int a5]) (n := 7) (Nat.le_of_ble_eq_true rfl)
    show W p l e (headSpec (ws_u yX5_tryPromises cX5_tryPromises 7 none) ({ frames := 4, cells := 0, slots := 0, locals := 98 })).room s m ([.ref a0, .ref a1, .ref a2, va_rf none, .int a4, .int a5] : List Value).toArray below meth c s.heap [] 0 0 _ (entryFrame m ([.ref a0, .ref a1, .ref a2, .null, .int a4, .int a5] : List Value).toArray 7)
    rw [lg_entry_eq]
    generalize (lg_sl ([.ref a0, .ref a1, .ref a2, .null, .int a4, .int a5]) ++ List.replicate (7 - (lg_sl ([.ref a0, .ref a1, .ref a2, .null, .int a4, .int a5])).length) Slot.unset).toArray = ls at hl ⊢
    have hl : lv_has ls 7 [(0, .ref a0), (1, .ref a1), (2, .ref a2), (3, .null), (4, .int a4), (5, .int a5)] := hl
    refine t_start (fun QQ hQ => ?_)
    refine lv_iconst (v := 0) hx hb dX5_tryPromises_0 (by decide) ?_
    refine lv_istore (lv' := [(6, .int 0), (0, .ref a0), (1, .ref a1), (2, .ref a2), (3, .null), (4, .int a4), (5, .int a5)]) hx hb dX5_tryPromises_1 hl (by decide) rfl (fun ls hl => ?_)
    have J3 : ∀ (n : Nat) (H : Heap) (locs : List Loc) (ls : Array Slot), (∃ (w3 : va_W) (p3_l6 : Int32), tW (dC, dI) tys κ B A s w3 H locs ∧ Sm [(5, 0), (5, 1), (5, 5)] [33, 34, 35, 36, 37, 42, 44] κ ws w3 ∧ 0 ≤ p3_l6.toInt ∧ p3_l6.toInt ≤ 25 ∧ lv_has ls 7 [(0, .ref a0), (1, .ref a1), (2, .ref a2), (3, .null), (4, .int a4), (5, .int a5), (6, .int p3_l6)] ∧ (25 - p3_l6.toInt).toNat = n) → W p l e (headSpec (ws_u yX5_tryPromises cX5_tryPromises 7 none) ({ frames := 4, cells := 0, slots := 0, locals := 98 })).room s m ([.ref a0, .ref a1, .ref a2, va_rf none, .int a4, .int a5] : List Value).toArray below meth c H locs 0 0 QQ (F0 m 3 ls []) := by
      refine loopT _ ?_
      intro n_3 H locs ls hI ih_3
      obtain ⟨w3, p3_l6, hw, hM, l_p3_l6, h_p3_l6, hl, hn_3⟩ := hI
      refine lv_iload hx hb dX5_tryPromises_3 (lv_at hl 6 rfl) ?_
      refine lv_bipush (v := 25) hx hb dX5_tryPromises_5 (by decide) ?_
      refine lv_icmp_ge (tgt := 60) hx hb dX5_tryPromises_7 (by decide) (fun c_7 => ?_) (fun c_7 => ?_)
      · simp only [fa_lt, fa_le, fa_eq, li_25] at c_7
        rw [hQ]
        refine W.widen (k := 0) (n := 0) (Nat.le_refl _) (Nat.le_refl _) ?_
        exact W.vret hx hb hr (fun t ht hW => ⟨⟨w3, rfl, ⟨hw.2.2.2.2, hM⟩, by rw [ht]; exact hw.2.1, va_K.moved hW.alike hw.1, hw.2.2.1⟩, hw.2.2.2.1.F ht⟩) hw.2.2.2.1.2.2 dX5_tryPromises_60
      · simp only [fa_lt, fa_le, fa_eq, li_25] at c_7
        refine lv_aload_n hx hb dX5_tryPromises_10 rfl (lv_at hl 2 rfl) ?_
        refine t_getr (k1 := 44) (ci := 8) (C := RX8) (T := TX8) (N := 13) hx hb hts iX8 hown hw k_a2 rfl rfl rfl 8 (by decide) (hts _ tw_243) (fun _ h9 => h9) dX5_tryPromises_11 rfl (fun v11 k_v11 f_a2_X8_8 => ?_)
        refine lv_iload hx hb dX5_tryPromises_14 (lv_at hl 4 rfl) ?_
        refine lv_iconst (v := 5) hx hb dX5_tryPromises_16 (by decide) ?_
        refine lv_iload hx hb dX5_tryPromises_17 (lv_at hl 6 rfl) ?_
        refine lv_iconst (v := 5) hx hb dX5_tryPromises_19 (by decide) ?_
        refine lv_idiv hx hb dX5_tryPromises_20 (ne_i li_5 (by decide)) ?_
        refine lv_topi (fun v20 e_v20 => ?_)
        have e_v20 : v20.toInt = p3_l6.toInt / 5 := dv_i e_v20 rfl li_5 (by omega) (by decide)
        refine lv_imul hx hb dX5_tryPromises_21 ?_
        refine lv_topi (fun v21 e_v21 => ?_)
        have e_v21 : v21.toInt = 5 * v20.toInt := ml_i e_v21 li_5 rfl (by omega) (by omega)
        refine t_iast hx hb hw k_v11 rfl rfl (by omega) (show a4.toInt < 6 by omega) (i32_lo _) (i32_hi _) dX5_tryPromises_22 (fun w_1 H locs hw u => ?_)
        have hM := hM.up3 u k_v11 (by decide)
        have f_a2_X8_8 := u.1 _ _ _ _ f_a2_X8_8
        refine lv_aload_n hx hb dX5_tryPromises_23 rfl (lv_at hl 2 rfl) ?_
        refine t_getk (ci := 8) (C := RX8) (T := TX8) (N := 13) hx hb hts iX8 hown hw rfl 8 (by decide) (hts _ tw_243) (fun _ h9 => h9) dX5_tryPromises_24 f_a2_X8_8 ?_
        refine lv_iload hx hb dX5_tryPromises_27 (lv_at hl 5 rfl) ?_
        refine lv_iconst (v := 5) hx hb dX5_tryPromises_29 (by decide) ?_
        refine lv_iload hx hb dX5_tryPromises_30 (lv_at hl 6 rfl) ?_
        refine lv_iconst (v := 5) hx hb dX5_tryPromises_32 (by decide) ?_
        refine lv_irem hx hb dX5_tryPromises_33 (ne_i li_5 (by decide)) ?_
        refine lv_topi (fun v33 e_v33 => ?_)
        have e_v33 : v33.toInt = p3_l6.toInt % 5 := rm_i e_v33 rfl li_5 (by omega) (by decide)
        refine lv_imul hx hb dX5_tryPromises_34 ?_
        refine lv_topi (fun v34 e_v34 => ?_)
        have e_v34 : v34.toInt = 5 * v33.toInt := ml_i e_v34 li_5 rfl (by omega) (by omega)
        refine t_iast hx hb hw k_v11 rfl rfl (by omega) (show a5.toInt < 6 by omega) (i32_lo _) (i32_hi _) dX5_tryPromises_35 (fun w_2 H locs hw u => ?_)
        have hM := hM.up3 u k_v11 (by decide)
        have f_a2_X8_8 := u.1 _ _ _ _ f_a2_X8_8
        refine lv_aload_n hx hb dX5_tryPromises_36 rfl (lv_at hl 0 rfl) ?_
        refine lv_aload_n hx hb dX5_tryPromises_37 rfl (lv_at hl 1 rfl) ?_
        refine lv_aload_n hx hb dX5_tryPromises_38 rfl (lv_at hl 2 rfl) ?_
        refine lv_aload_nN hx hb dX5_tryPromises_39 rfl (lv_at hl 3 rfl) ?_
        refine t_callv (va_runV (As := [.ref a1, .ref a2, .null]) (rest := []) ⟨hx, hb, hml, hown, hts⟩ (t_X5_hold l dC dI tys κ B w_2 hw.2.2.2.2 a0 k_a0 a1 k_a1 a2 k_a2 none (fun _ h => by cases h) H.size) (cwV 3 hts (gUV tw_958 tw_765 tw_766 tw_10 tw_767) rfl rfl rfl (by decide +kernel) ⟨(Nat.le_of_ble_eq_true rfl), (Nat.le_of_ble_eq_true rfl)⟩) ⟨cPre.blind, t_recv hw (ci := 5) k_a0 rfl rfl, cPre.use hw.2.1 hw.1 hw.2.2.1 hE⟩ rfl rfl hl.1 rfl (lv_room (Nat.le_of_ble_eq_true rfl)) dX5_tryPromises_40 ⟨(Nat.le_of_ble_eq_true rfl), (Nat.le_of_ble_eq_true rfl)⟩) hw hA (fun _ h => h.1) (fun w_3 H locs hp hw => ?_)
        obtain ⟨_, hm⟩ := hp
        have hM := hM.trans hm (by decide) (by decide)
        have f_a2_X8_8 := hm.1 _ _ _ _ f_a2_X8_8 (by decide)
        refine lv_aload_n hx hb dX5_tryPromises_43 rfl (lv_at hl 0 rfl) ?_
        refine t_getr (k1 := 37) (ci := 5) (C := RX5) (T := TX5) (N := 8) hx hb hts iX5 hown hw k_a0 rfl rfl rfl 7 (by decide) (hts _ tw_355) (fun _ h9 => h9) dX5_tryPromises_44 rfl (fun v44 k_v44 f_a0_X5_7 => ?_)
        refine lv_iload hx hb dX5_tryPromises_47 (lv_at hl 6 rfl) ?_
        refine lv_aload_n hx hb dX5_tryPromises_49 rfl (lv_at hl 0 rfl) ?_
        refine t_geti (ci := 5) (C := RX5) (T := TX5) (N := 8) hx hb hts iX5 hown hw k_a0 rfl rfl rfl 5 (by decide) (hts _ tw_352) (fun _ h9 => h9) dX5_tryPromises_50 rfl (fun v50 l_v50 h_v50 f_a0_X5_5 => ?_)
        have l_v50 : (-1) ≤ v50.toInt := l_v50
        have h_v50 : v50.toInt ≤ 5 := h_v50
        refine t_iast hx hb hw k_v44 rfl rfl (by omega) (show p3_l6.toInt < 25 by omega) (i32_lo _) (i32_hi _) dX5_tryPromises_53 (fun w_4 H locs hw u => ?_)
        have hM := hM.up3 u k_v44 (by decide)
        have f_a2_X8_8 := u.1 _ _ _ _ f_a2_X8_8
        have f_a0_X5_7 := u.1 _ _ _ _ f_a0_X5_7
        have f_a0_X5_5 := u.1 _ _ _ _ f_a0_X5_5
        obtain ⟨v54, e_v54⟩ : ∃ y : Int32, y = p3_l6 + 1 := ⟨_, rfl⟩
        refine lv_iinc (v := v54) (lv' := [(6, .int v54), (0, .ref a0), (1, .ref a1), (2, .ref a2), (3, .null), (4, .int a4), (5, .int a5)]) hx hb dX5_tryPromises_54 hl (k := 6) rfl e_v54.symm (by decide) rfl (fun ls hl => ?_)
        have e_v54 : v54.toInt = p3_l6.toInt + 1 := ad_i e_v54 rfl li_1 (by omega) (by omega)
        refine lv_goto (tgt := 3) hx hb dX5_tryPromises_57 (by decide) ?_
        exact ih_3 _ _ _ _ (by omega) ⟨w_4, v54, hw, hM, (by omega), (by omega), (lv_sub hl [1, 2, 3, 4, 5, 6, 0] rfl), rfl⟩
    exact J3 _ _ _ _ ⟨ws, 0, hw, hM, (by decide), (by decide), (lv_sub hl [1, 2, 3, 4, 5, 6, 0] rfl), rfl⟩
  · have k_a3 := k_a3 _ rfl
    have hl := lv_entry ([.ref a0, .ref a1, .ref a2, .ref a3, .int a4, .int a5]) (n := 7) (Nat.le_of_ble_eq_true rfl)
    show W p l e (headSpec (ws_u yX5_tryPromises cX5_tryPromises 7 none) ({ frames := 4, cells := 0, slots := 0, locals := 98 })).room s m ([.ref a0, .ref a1, .ref a2, va_rf (some a3), .int a4, .int a5] : List Value).toArray below meth c s.heap [] 0 0 _ (entryFrame m ([.ref a0, .ref a1, .ref a2, .ref a3, .int a4, .int a5] : List Value).toArray 7)
    rw [lg_entry_eq]
    generalize (lg_sl ([.ref a0, .ref a1, .ref a2, .ref a3, .int a4, .int a5]) ++ List.replicate (7 - (lg_sl ([.ref a0, .ref a1, .ref a2, .ref a3, .int a4, .int a5])).length) Slot.unset).toArray = ls at hl ⊢
    have hl : lv_has ls 7 [(0, .ref a0), (1, .ref a1), (2, .ref a2), (3, .ref a3), (4, .int a4), (5, .int a5)] := hl
    refine t_start (fun QQ hQ => ?_)
    refine lv_iconst (v := 0) hx hb dX5_tryPromises_0 (by decide) ?_
    refine lv_istore (lv' := [(6, .int 0), (0, .ref a0), (1, .ref a1), (2, .ref a2), (3, .ref a3), (4, .int a4), (5, .int a5)]) hx hb dX5_tryPromises_1 hl (by decide) rfl (fun ls hl => ?_)
    have J3 : ∀ (n : Nat) (H : Heap) (locs : List Loc) (ls : Array Slot), (∃ (w3 : va_W) (p3_l6 : Int32), tW (dC, dI) tys κ B A s w3 H locs ∧ Sm [(5, 0), (5, 1), (5, 5)] [33, 34, 35, 36, 37, 42, 44] κ ws w3 ∧ 0 ≤ p3_l6.toInt ∧ p3_l6.toInt ≤ 25 ∧ lv_has ls 7 [(0, .ref a0), (1, .ref a1), (2, .ref a2), (3, .ref a3), (4, .int a4), (5, .int a5), (6, .int p3_l6)] ∧ (25 - p3_l6.toInt).toNat = n) → W p l e (headSpec (ws_u yX5_tryPromises cX5_tryPromises 7 none) ({ frames := 4, cells := 0, slots := 0, locals := 98 })).room s m ([.ref a0, .ref a1, .ref a2, va_rf (some a3), .int a4, .int a5] : List Value).toArray below meth c H locs 0 0 QQ (F0 m 3 ls []) := by
      refine loopT _ ?_
      intro n_3 H locs ls hI ih_3
      obtain ⟨w3, p3_l6, hw, hM, l_p3_l6, h_p3_l6, hl, hn_3⟩ := hI
      refine lv_iload hx hb dX5_tryPromises_3 (lv_at hl 6 rfl) ?_
      refine lv_bipush (v := 25) hx hb dX5_tryPromises_5 (by decide) ?_
      refine lv_icmp_ge (tgt := 60) hx hb dX5_tryPromises_7 (by decide) (fun c_7 => ?_) (fun c_7 => ?_)
      · simp only [fa_lt, fa_le, fa_eq, li_25] at c_7
        rw [hQ]
        refine W.widen (k := 0) (n := 0) (Nat.le_refl _) (Nat.le_refl _) ?_
        exact W.vret hx hb hr (fun t ht hW => ⟨⟨w3, rfl, ⟨hw.2.2.2.2, hM⟩, by rw [ht]; exact hw.2.1, va_K.moved hW.alike hw.1, hw.2.2.1⟩, hw.2.2.2.1.F ht⟩) hw.2.2.2.1.2.2 dX5_tryPromises_60
      · simp only [fa_lt, fa_le, fa_eq, li_25] at c_7
        refine lv_aload_n hx hb dX5_tryPromises_10 rfl (lv_at hl 2 rfl) ?_
        refine t_getr (k1 := 44) (ci := 8) (C := RX8) (T := TX8) (N := 13) hx hb hts iX8 hown hw k_a2 rfl rfl rfl 8 (by decide) (hts _ tw_243) (fun _ h9 => h9) dX5_tryPromises_11 rfl (fun v11 k_v11 f_a2_X8_8 => ?_)
        refine lv_iload hx hb dX5_tryPromises_14 (lv_at hl 4 rfl) ?_
        refine lv_iconst (v := 5) hx hb dX5_tryPromises_16 (by decide) ?_
        refine lv_iload hx hb dX5_tryPromises_17 (lv_at hl 6 rfl) ?_
        refine lv_iconst (v := 5) hx hb dX5_tryPromises_19 (by decide) ?_
        refine lv_idiv hx hb dX5_tryPromises_20 (ne_i li_5 (by decide)) ?_
        refine lv_topi (fun v20 e_v20 => ?_)
        have e_v20 : v20.toInt = p3_l6.toInt / 5 := dv_i e_v20 rfl li_5 (by omega) (by decide)
        refine lv_imul hx hb dX5_tryPromises_21 ?_
        refine lv_topi (fun v21 e_v21 => ?_)
        have e_v21 : v21.toInt = 5 * v20.toInt := ml_i e_v21 li_5 rfl (by omega) (by omega)
        refine t_iast hx hb hw k_v11 rfl rfl (by omega) (show a4.toInt < 6 by omega) (i32_lo _) (i32_hi _) dX5_tryPromises_22 (fun w_5 H locs hw u => ?_)
        have hM := hM.up3 u k_v11 (by decide)
        have f_a2_X8_8 := u.1 _ _ _ _ f_a2_X8_8
        refine lv_aload_n hx hb dX5_tryPromises_23 rfl (lv_at hl 2 rfl) ?_
        refine t_getk (ci := 8) (C := RX8) (T := TX8) (N := 13) hx hb hts iX8 hown hw rfl 8 (by decide) (hts _ tw_243) (fun _ h9 => h9) dX5_tryPromises_24 f_a2_X8_8 ?_
        refine lv_iload hx hb dX5_tryPromises_27 (lv_at hl 5 rfl) ?_
        refine lv_iconst (v := 5) hx hb dX5_tryPromises_29 (by decide) ?_
        refine lv_iload hx hb dX5_tryPromises_30 (lv_at hl 6 rfl) ?_
        refine lv_iconst (v := 5) hx hb dX5_tryPromises_32 (by decide) ?_
        refine lv_irem hx hb dX5_tryPromises_33 (ne_i li_5 (by decide)) ?_
        refine lv_topi (fun v33 e_v33 => ?_)
        have e_v33 : v33.toInt = p3_l6.toInt % 5 := rm_i e_v33 rfl li_5 (by omega) (by decide)
        refine lv_imul hx hb dX5_tryPromises_34 ?_
        refine lv_topi (fun v34 e_v34 => ?_)
        have e_v34 : v34.toInt = 5 * v33.toInt := ml_i e_v34 li_5 rfl (by omega) (by omega)
        refine t_iast hx hb hw k_v11 rfl rfl (by omega) (show a5.toInt < 6 by omega) (i32_lo _) (i32_hi _) dX5_tryPromises_35 (fun w_6 H locs hw u => ?_)
        have hM := hM.up3 u k_v11 (by decide)
        have f_a2_X8_8 := u.1 _ _ _ _ f_a2_X8_8
        refine lv_aload_n hx hb dX5_tryPromises_36 rfl (lv_at hl 0 rfl) ?_
        refine lv_aload_n hx hb dX5_tryPromises_37 rfl (lv_at hl 1 rfl) ?_
        refine lv_aload_n hx hb dX5_tryPromises_38 rfl (lv_at hl 2 rfl) ?_
        refine lv_aload_n hx hb dX5_tryPromises_39 rfl (lv_at hl 3 rfl) ?_
        refine t_callv (va_runV (As := [.ref a1, .ref a2, .ref a3]) (rest := []) ⟨hx, hb, hml, hown, hts⟩ (t_X5_hold l dC dI tys κ B w_6 hw.2.2.2.2 a0 k_a0 a1 k_a1 a2 k_a2 (some a3) (fun _ h => by cases h; exact k_a3) H.size) (cwV 3 hts (gUV tw_958 tw_765 tw_766 tw_10 tw_767) rfl rfl rfl (by decide +kernel) ⟨(Nat.le_of_ble_eq_true rfl), (Nat.le_of_ble_eq_true rfl)⟩) ⟨cPre.blind, t_recv hw (ci := 5) k_a0 rfl rfl, cPre.use hw.2.1 hw.1 hw.2.2.1 hE⟩ rfl rfl hl.1 rfl (lv_room (Nat.le_of_ble_eq_true rfl)) dX5_tryPromises_40 ⟨(Nat.le_of_ble_eq_true rfl), (Nat.le_of_ble_eq_true rfl)⟩) hw hA (fun _ h => h.1) (fun w_7 H locs hp hw => ?_)
        obtain ⟨_, hm⟩ := hp
        have hM := hM.trans hm (by decide) (by decide)
        have f_a2_X8_8 := hm.1 _ _ _ _ f_a2_X8_8 (by decide)
        refine lv_aload_n hx hb dX5_tryPromises_43 rfl (lv_at hl 0 rfl) ?_
        refine t_getr (k1 := 37) (ci := 5) (C := RX5) (T := TX5) (N := 8) hx hb hts iX5 hown hw k_a0 rfl rfl rfl 7 (by decide) (hts _ tw_355) (fun _ h9 => h9) dX5_tryPromises_44 rfl (fun v44 k_v44 f_a0_X5_7 => ?_)
        refine lv_iload hx hb dX5_tryPromises_47 (lv_at hl 6 rfl) ?_
        refine lv_aload_n hx hb dX5_tryPromises_49 rfl (lv_at hl 0 rfl) ?_
        refine t_geti (ci := 5) (C := RX5) (T := TX5) (N := 8) hx hb hts iX5 hown hw k_a0 rfl rfl rfl 5 (by decide) (hts _ tw_352) (fun _ h9 => h9) dX5_tryPromises_50 rfl (fun v50 l_v50 h_v50 f_a0_X5_5 => ?_)
        have l_v50 : (-1) ≤ v50.toInt := l_v50
        have h_v50 : v50.toInt ≤ 5 := h_v50
        refine t_iast hx hb hw k_v44 rfl rfl (by omega) (show p3_l6.toInt < 25 by omega) (i32_lo _) (i32_hi _) dX5_tryPromises_53 (fun w_8 H locs hw u => ?_)
        have hM := hM.up3 u k_v44 (by decide)
        have f_a2_X8_8 := u.1 _ _ _ _ f_a2_X8_8
        have f_a0_X5_7 := u.1 _ _ _ _ f_a0_X5_7
        have f_a0_X5_5 := u.1 _ _ _ _ f_a0_X5_5
        obtain ⟨v54, e_v54⟩ : ∃ y : Int32, y = p3_l6 + 1 := ⟨_, rfl⟩
        refine lv_iinc (v := v54) (lv' := [(6, .int v54), (0, .ref a0), (1, .ref a1), (2, .ref a2), (3, .ref a3), (4, .int a4), (5, .int a5)]) hx hb dX5_tryPromises_54 hl (k := 6) rfl e_v54.symm (by decide) rfl (fun ls hl => ?_)
        have e_v54 : v54.toInt = p3_l6.toInt + 1 := ad_i e_v54 rfl li_1 (by omega) (by omega)
        refine lv_goto (tgt := 3) hx hb dX5_tryPromises_57 (by decide) ?_
        exact ih_3 _ _ _ _ (by omega) ⟨w_8, v54, hw, hM, (by omega), (by omega), (lv_sub hl [1, 2, 3, 4, 5, 6, 0] rfl), rfl⟩
    exact J3 _ _ _ _ ⟨ws, 0, hw, hM, (by decide), (by decide), (lv_sub hl [1, 2, 3, 4, 5, 6, 0] rfl), rfl⟩
set_option maxHeartbeats 4000000 in
set_option maxRecDepth 100000 in
theorem t_X11_rests (l : Launch) (dC : Nat → ClassId) (dI : Nat → Nat → Nat) (tys : List (ClassId × FieldType)) (κ : tK) (B : Nat) (ws : va_W) (hT : Ty κ tys B ws) (a0 : Nat) (k_a0 : κ a0 = some 11) (a1 : Int32) (a2 : Int32) (a3 : Int32) (sz : Nat) : Met l yX11_rests (ws_u yX11_rests cX11_rests 5 (some .int)) ({ frames := 5, cells := 0, slots := 0, locals := 124 }) (va_Pc [.ref a0, .int a1, .int a2, .int a3] (cPre (dC, dI) tys ws sz)) (va_Qi (fun (r : Int32) (w : va_W) => Ty κ tys B w ∧ Sm [(5, 0), (5, 1), (5, 5), (8, 0), (8, 1), (8, 2), (8, 3), (8, 4), (8, 5), (8, 6)] [33, 34, 35, 36, 37, 42, 43, 44, 45, 46, 47, 48] κ ws w) (fun w t => cPost (dC, dI) tys w (va_A ws sz) t) (va_A ws sz)) 0 0 (va_A ws sz) := by
  refine Met.ofW (cc := cX11_rests) (maxL := 5) (ret := (some .int)) (by decide) rfl ?_
  intro p e s m args below meth c s₁ B0 hml hv
  obtain ⟨rfl, hsz, hP, hK, hD0, hE⟩ := hv
  have hx := B0.exec
  have hb := B0.bytes
  have hr := B0.returns
  have hts0 := atoms_spec (ws := ws_u yX11_rests cX11_rests 5 (some .int)) B0.pre
  have hts : ∀ w ∈ gT, w.before _ s = true := fun w h => hts0 w (List.mem_cons_of_mem _ h)
  have hown : s.vm.findClass RX11 = some m.cls := findClass_of_methodNamed B0.named
  have hlocks := B0.notSynchronized
  subst hsz
  have hD := hD0.self (sz := s.heap.size)
  generalize hAe : va_A ws s.heap.size = A at hD ⊢
  have hA : ∀ q : Nat, s.heap.size ≤ q → A q := fun q h => by rw [← hAe]; exact Or.inr h
  have hw : tW (dC, dI) tys κ B A s ws s.heap [] := ⟨hK, hP, hD, va_S.rf, hT⟩
  have hM : Sm [(5, 0), (5, 1), (5, 5), (8, 0), (8, 1), (8, 2), (8, 3), (8, 4), (8, 5), (8, 6)] [33, 34, 35, 36, 37, 42, 43, 44, 45, 46, 47, 48] κ ws ws := Sm.rf
  clear hP hK hD hD0 hts0
  have l_a1 := i32_lo a1
  have h_a1 := i32_hi a1
  have l_a2 := i32_lo a2
  have h_a2 := i32_hi a2
  have l_a3 := i32_lo a3
  have h_a3 := i32_hi a3
  have hl := lv_entry ([.ref a0, .int a1, .int a2, .int a3]) (n := 5) (Nat.le_of_ble_eq_true rfl)
  rw [lg_entry_eq]
  generalize (lg_sl ([.ref a0, .int a1, .int a2, .int a3]) ++ List.replicate (5 - (lg_sl ([.ref a0, .int a1, .int a2, .int a3])).length) Slot.unset).toArray = ls at hl ⊢
  have hl : lv_has ls 5 [(0, .ref a0), (1, .int a1), (2, .int a2), (3, .int a3)] := hl
  refine t_start (fun QQ hQ => ?_)
  refine lv_aload_n hx hb dX11_rests_0 rfl (lv_at hl 0 rfl) ?_
  refine lv_iload_n hx hb dX11_rests_1 rfl (lv_at hl 1 rfl) ?_
  refine t_calli (va_runV (As := [.int a1]) (rest := []) ⟨hx, hb, hml, hown, hts⟩ (t_X11_isSinging l dC dI tys κ B ws hw.2.2.2.2 a0 k_a0 a1 s.heap.size) (cwV 1 hts (gUV tw_878 tw_880 ts_1_15 tw_1 tw_881) rfl rfl rfl (by decide +kernel) ⟨(Nat.le_of_ble_eq_true rfl), (Nat.le_of_ble_eq_true rfl)⟩) ⟨cPre.blind, t_recv hw (ci := 11) k_a0 rfl rfl, cPre.use hw.2.1 hw.1 hw.2.2.1 hE⟩ rfl rfl hl.1 rfl (lv_room (Nat.le_of_ble_eq_true rfl)) dX11_rests_2 ⟨(Nat.le_of_ble_eq_true rfl), (Nat.le_of_ble_eq_true rfl)⟩) hw hA (fun _ _ h => h.2.2.1) (fun v2 w_1 H locs hp hw => ?_)
  obtain ⟨l_v2, h_v2, _, hm, x_v2_0⟩ := hp
  have hM := hM.trans hm (by decide) (by decide)
  refine lv_if_eq (tgt := 30) hx hb dX11_rests_5 (by decide) (fun c_5 => ?_) (fun c_5 => ?_)
  · simp only [fa_lt, fa_le, fa_eq, li_0] at c_5
    refine lv_iconst (v := (-1)) hx hb dX11_rests_30 (by decide) ?_
    rw [hQ]
    refine W.widen (k := 0) (n := 0) (Nat.le_refl _) (Nat.le_refl _) ?_
    exact W.iret (v := (-1)) hx hb hr (fun t ht hW => ⟨⟨(-1), w_1, rfl, ⟨hw.2.2.2.2, hM⟩, by rw [ht]; exact hw.2.1, va_K.moved hW.alike hw.1, hw.2.2.1⟩, hw.2.2.2.1.F ht⟩) hw.2.2.2.1.2.2 dX11_rests_31
  · simp only [fa_lt, fa_le, fa_eq, li_0] at c_5
    refine lv_aload_n hx hb dX11_rests_8 rfl (lv_at hl 0 rfl) ?_
    refine lv_iload_n hx hb dX11_rests_9 rfl (lv_at hl 2 rfl) ?_
    refine t_calli (va_runV (As := [.int a2]) (rest := []) ⟨hx, hb, hml, hown, hts⟩ (t_X11_isSinging l dC dI tys κ B w_1 hw.2.2.2.2 a0 k_a0 a2 H.size) (cwV 1 hts (gUV tw_878 tw_880 ts_1_15 tw_1 tw_881) rfl rfl rfl (by decide +kernel) ⟨(Nat.le_of_ble_eq_true rfl), (Nat.le_of_ble_eq_true rfl)⟩) ⟨cPre.blind, t_recv hw (ci := 11) k_a0 rfl rfl, cPre.use hw.2.1 hw.1 hw.2.2.1 hE⟩ rfl rfl hl.1 rfl (lv_room (Nat.le_of_ble_eq_true rfl)) dX11_rests_10 ⟨(Nat.le_of_ble_eq_true rfl), (Nat.le_of_ble_eq_true rfl)⟩) hw hA (fun _ _ h => h.2.2.1) (fun v10 w_2 H locs hp hw => ?_)
    obtain ⟨l_v10, h_v10, _, hm, x_v10_0⟩ := hp
    have hM := hM.trans hm (by decide) (by decide)
    refine lv_if_eq (tgt := 30) hx hb dX11_rests_13 (by decide) (fun c_13 => ?_) (fun c_13 => ?_)
    · simp only [fa_lt, fa_le, fa_eq, li_0] at c_13
      refine lv_iconst (v := (-1)) hx hb dX11_rests_30 (by decide) ?_
      rw [hQ]
      refine W.widen (k := 0) (n := 0) (Nat.le_refl _) (Nat.le_refl _) ?_
      exact W.iret (v := (-1)) hx hb hr (fun t ht hW => ⟨⟨(-1), w_2, rfl, ⟨hw.2.2.2.2, hM⟩, by rw [ht]; exact hw.2.1, va_K.moved hW.alike hw.1, hw.2.2.1⟩, hw.2.2.2.1.F ht⟩) hw.2.2.2.1.2.2 dX11_rests_31
    · simp only [fa_lt, fa_le, fa_eq, li_0] at c_13
      refine lv_iload_n hx hb dX11_rests_16 rfl (lv_at hl 1 rfl) ?_
      refine lv_iload_n hx hb dX11_rests_17 rfl (lv_at hl 2 rfl) ?_
      refine lv_icmp_eq (tgt := 30) hx hb dX11_rests_18 (by decide) (fun c_18 => ?_) (fun c_18 => ?_)
      · simp only [fa_lt, fa_le, fa_eq] at c_18
        refine lv_iconst (v := (-1)) hx hb dX11_rests_30 (by decide) ?_
        rw [hQ]
        refine W.widen (k := 0) (n := 0) (Nat.le_refl _) (Nat.le_refl _) ?_
        exact W.iret (v := (-1)) hx hb hr (fun t ht hW => ⟨⟨(-1), w_2, rfl, ⟨hw.2.2.2.2, hM⟩, by rw [ht]; exact hw.2.1, va_K.moved hW.alike hw.1, hw.2.2.1⟩, hw.2.2.2.1.F ht⟩) hw.2.2.2.1.2.2 dX11_rests_31
      · simp only [fa_lt, fa_le, fa_eq] at c_18
        refine lv_iload_n hx hb dX11_rests_21 rfl (lv_at hl 3 rfl) ?_
        refine lv_if_lt (tgt := 30) hx hb dX11_rests_22 (by decide) (fun c_22 => ?_) (fun c_22 => ?_)
        · simp only [fa_lt, fa_le, fa_eq, li_0] at c_22
          refine lv_iconst (v := (-1)) hx hb dX11_rests_30 (by decide) ?_
          rw [hQ]
          refine W.widen (k := 0) (n := 0) (Nat.le_refl _) (Nat.le_refl _) ?_
          exact W.iret (v := (-1)) hx hb hr (fun t ht hW => ⟨⟨(-1), w_2, rfl, ⟨hw.2.2.2.2, hM⟩, by rw [ht]; exact hw.2.1, va_K.moved hW.alike hw.1, hw.2.2.1⟩, hw.2.2.2.1.F ht⟩) hw.2.2.2.1.2.2 dX11_rests_31
        · simp only [fa_lt, fa_le, fa_eq, li_0] at c_22
          refine lv_iload_n hx hb dX11_rests_25 rfl (lv_at hl 3 rfl) ?_
          refine lv_iconst (v := 2) hx hb dX11_rests_26 (by decide) ?_
          refine lv_icmp_le (tgt := 32) hx hb dX11_rests_27 (by decide) (fun c_27 => ?_) (fun c_27 => ?_)
          · simp only [fa_lt, fa_le, fa_eq, li_2] at c_27
            refine lv_aload_n hx hb dX11_rests_32 rfl (lv_at hl 0 rfl) ?_
            refine t_getr (k1 := 8) (ci := 11) (C := RX11) (T := TX11) (N := 12) hx hb hts iX11 hown hw k_a0 rfl rfl rfl 11 (by decide) (hts _ tw_434) (fun _ h9 => h9) dX11_rests_33 rfl (fun v33 k_v33 f_a0_X11_11 => ?_)
            refine lv_aload_n hx hb dX11_rests_36 rfl (lv_at hl 0 rfl) ?_
            refine t_getr (k1 := 10) (ci := 11) (C := RX11) (T := TX11) (N := 12) hx hb hts iX11 hown hw k_a0 rfl rfl rfl 5 (by decide) (hts _ tw_428) (fun _ h9 => h9) dX11_rests_37 rfl (fun v37 k_v37 f_a0_X11_5 => ?_)
            refine t_getr (k1 := 8) (ci := 10) (C := RX10) (T := TX10) (N := 8) hx hb hts iX10 hown hw k_v37 rfl rfl rfl 1 (by decide) (hts _ tw_285) (fun _ h9 => h9) dX11_rests_40 rfl (fun v40 k_v40 f_v37_X10_1 => ?_)
            obtain ⟨u_v43q0, q_v43q0, f_v40_X8_1⟩ := t_peek (k := 1) hw.2.2.2.2 k_v40 rfl (by decide)
            obtain ⟨v43q0, rfl, l_v43q0, h_v43q0⟩ := q_v43q0.geti (lo := (-1)) (hi := 5) rfl
            refine t_callv (va_runV (As := [.ref v40]) (rest := []) ⟨hx, hb, hml, hown, hts⟩ (t_X8_copyFrom l dC dI tys κ B w_2 hw.2.2.2.2 v33 k_v33 v40 k_v40 v43q0 (by omega) (by omega) f_v40_X8_1 H.size) (cwV 1 hts (gUV tw_898 tw_752 tw_753 tw_8 tw_754) rfl rfl rfl (by decide +kernel) ⟨(Nat.le_of_ble_eq_true rfl), (Nat.le_of_ble_eq_true rfl)⟩) ⟨cPre.blind, t_recv hw (ci := 8) k_v33 rfl rfl, cPre.use hw.2.1 hw.1 hw.2.2.1 hE⟩ rfl rfl hl.1 rfl (lv_room (Nat.le_of_ble_eq_true rfl)) dX11_rests_43 ⟨(Nat.le_of_ble_eq_true rfl), (Nat.le_of_ble_eq_true rfl)⟩) hw hA (fun _ h => h.1) (fun w_3 H locs hp hw => ?_)
            obtain ⟨_, hm, f_v40_X8_1⟩ := hp
            have hM := hM.trans hm (by decide) (by decide)
            have f_a0_X11_11 := hm.1 _ _ _ _ f_a0_X11_11 (by decide)
            have f_a0_X11_5 := hm.1 _ _ _ _ f_a0_X11_5 (by decide)
            have f_v37_X10_1 := hm.1 _ _ _ _ f_v37_X10_1 (by decide)
            refine lv_aload_n hx hb dX11_rests_46 rfl (lv_at hl 0 rfl) ?_
            refine t_getr (k1 := 5) (ci := 11) (C := RX11) (T := TX11) (N := 12) hx hb hts iX11 hown hw k_a0 rfl rfl rfl 8 (by decide) (hts _ tw_431) (fun _ h9 => h9) dX11_rests_47 rfl (fun v47 k_v47 f_a0_X11_8 => ?_)
            refine lv_aload_n hx hb dX11_rests_50 rfl (lv_at hl 0 rfl) ?_
            refine t_getk (ci := 11) (C := RX11) (T := TX11) (N := 12) hx hb hts iX11 hown hw rfl 5 (by decide) (hts _ tw_428) (fun _ h9 => h9) dX11_rests_51 f_a0_X11_5 ?_
            refine t_getr (k1 := 0) (ci := 10) (C := RX10) (T := TX10) (N := 8) hx hb hts iX10 hown hw k_v37 rfl rfl rfl 0 (by decide) (hts _ tw_282) (fun _ h9 => h9) dX11_rests_54 rfl (fun v54 k_v54 f_v37_X10_0 => ?_)
            refine lv_aload_n hx hb dX11_rests_57 rfl (lv_at hl 0 rfl) ?_
            refine t_getk (ci := 11) (C := RX11) (T := TX11) (N := 12) hx hb hts iX11 hown hw rfl 11 (by decide) (hts _ tw_434) (fun _ h9 => h9) dX11_rests_58 f_a0_X11_11 ?_
            refine lv_aload_n hx hb dX11_rests_61 rfl (lv_at hl 0 rfl) ?_
            refine t_callq (va_runV (As := []) (rest := [.ref v33, .ref v54, .ref v47]) ⟨hx, hb, hml, hown, hts⟩ (t_X11_ruleInForce l dC dI tys κ B w_3 hw.2.2.2.2 a0 k_a0 H.size) (cwV 0 hts (gUV tw_756 tw_758 ts_1_3 tw_1 tw_759) rfl rfl rfl (by decide +kernel) ⟨(Nat.le_of_ble_eq_true rfl), (Nat.le_of_ble_eq_true rfl)⟩) ⟨cPre.blind, t_recv hw (ci := 11) k_a0 rfl rfl, cPre.use hw.2.1 hw.1 hw.2.2.1 hE⟩ rfl rfl hl.1 rfl (lv_room (Nat.le_of_ble_eq_true rfl)) dX11_rests_62 ⟨(Nat.le_of_ble_eq_true rfl), (Nat.le_of_ble_eq_true rfl)⟩) hw hA (fun _ _ h => h.2.1) (fun v62 w_4 H locs hp hw => ?_)
            obtain ⟨k_v62, _, hm⟩ := hp
            have hM := hM.trans hm (by decide) (by decide)
            have f_a0_X11_11 := hm.1 _ _ _ _ f_a0_X11_11 (by decide)
            have f_a0_X11_5 := hm.1 _ _ _ _ f_a0_X11_5 (by decide)
            have f_v37_X10_1 := hm.1 _ _ _ _ f_v37_X10_1 (by decide)
            have f_v40_X8_1 := hm.1 _ _ _ _ f_v40_X8_1 (by decide)
            have f_a0_X11_8 := hm.1 _ _ _ _ f_a0_X11_8 (by decide)
            have f_v37_X10_0 := hm.1 _ _ _ _ f_v37_X10_0 (by decide)
            refine lv_iload_n hx hb dX11_rests_65 rfl (lv_at hl 1 rfl) ?_
            refine lv_iload_n hx hb dX11_rests_66 rfl (lv_at hl 2 rfl) ?_
            refine t_callv (va_runV (As := [.ref v54, .ref v33, va_rf v62, .int a1, .int a2]) (rest := []) ⟨hx, hb, hml, hown, hts⟩ (t_X5_tryPromises l dC dI tys κ B w_4 hw.2.2.2.2 v47 k_v47 v54 k_v54 v33 k_v33 v62 k_v62 a1 (by omega) (by omega) a2 (by omega) (by omega) H.size) (cwV 5 hts (gUV tw_954 tw_955 tw_956 tw_10 tw_957) rfl rfl rfl (by decide +kernel) ⟨(Nat.le_of_ble_eq_true rfl), (Nat.le_of_ble_eq_true rfl)⟩) ⟨cPre.blind, t_recv hw (ci := 5) k_v47 rfl rfl, cPre.use hw.2.1 hw.1 hw.2.2.1 hE⟩ rfl rfl hl.1 rfl (lv_room (Nat.le_of_ble_eq_true rfl)) dX11_rests_67 ⟨(Nat.le_of_ble_eq_true rfl), (Nat.le_of_ble_eq_true rfl)⟩) hw hA (fun _ h => h.1) (fun w_5 H locs hp hw => ?_)
            obtain ⟨_, hm⟩ := hp
            have hM := hM.trans hm (by decide) (by decide)
            have f_a0_X11_11 := hm.1 _ _ _ _ f_a0_X11_11 (by decide)
            have f_a0_X11_5 := hm.1 _ _ _ _ f_a0_X11_5 (by decide)
            have f_v37_X10_1 := hm.1 _ _ _ _ f_v37_X10_1 (by decide)
            have f_v40_X8_1 := hm.1 _ _ _ _ f_v40_X8_1 (by decide)
            have f_a0_X11_8 := hm.1 _ _ _ _ f_a0_X11_8 (by decide)
            have f_v37_X10_0 := hm.1 _ _ _ _ f_v37_X10_0 (by decide)
            refine lv_iload_n hx hb dX11_rests_70 rfl (lv_at hl 3 rfl) ?_
            refine lv_if_ne (tgt := 84) hx hb dX11_rests_71 (by decide) (fun c_71 => ?_) (fun c_71 => ?_)
            · simp only [fa_lt, fa_le, fa_eq, li_0] at c_71
              refine lv_aload_n hx hb dX11_rests_84 rfl (lv_at hl 0 rfl) ?_
              refine t_getk (ci := 11) (C := RX11) (T := TX11) (N := 12) hx hb hts iX11 hown hw rfl 8 (by decide) (hts _ tw_431) (fun _ h9 => h9) dX11_rests_85 f_a0_X11_8 ?_
              refine lv_iload_n hx hb dX11_rests_88 rfl (lv_at hl 1 rfl) ?_
              refine lv_iload_n hx hb dX11_rests_89 rfl (lv_at hl 2 rfl) ?_
              refine t_calli (va_runV (As := [.int a1, .int a2]) (rest := []) ⟨hx, hb, hml, hown, hts⟩ (t_X5_firstRest l dC dI tys κ B w_5 hw.2.2.2.2 v47 k_v47 a1 (by omega) (by omega) a2 (by omega) (by omega) H.size) (cwV 2 hts (gUV tw_971 tw_972 tw_973 tw_10 tw_974) rfl rfl rfl (by decide +kernel) ⟨(Nat.le_of_ble_eq_true rfl), (Nat.le_of_ble_eq_true rfl)⟩) ⟨cPre.blind, t_recv hw (ci := 5) k_v47 rfl rfl, cPre.use hw.2.1 hw.1 hw.2.2.1 hE⟩ rfl rfl hl.1 rfl (lv_room (Nat.le_of_ble_eq_true rfl)) dX11_rests_90 ⟨(Nat.le_of_ble_eq_true rfl), (Nat.le_of_ble_eq_true rfl)⟩) hw hA (fun _ _ h => h.2.2.1) (fun v90 w_6 H locs hp hw => ?_)
              obtain ⟨l_v90, h_v90, _, hm⟩ := hp
              have hM := hM.trans hm (by decide) (by decide)
              have f_a0_X11_11 := hm.1 _ _ _ _ f_a0_X11_11 (by decide)
              have f_a0_X11_5 := hm.1 _ _ _ _ f_a0_X11_5 (by decide)
              have f_v37_X10_1 := hm.1 _ _ _ _ f_v37_X10_1 (by decide)
              have f_v40_X8_1 := hm.1 _ _ _ _ f_v40_X8_1 (by decide)
              have f_a0_X11_8 := hm.1 _ _ _ _ f_a0_X11_8 (by decide)
              have f_v37_X10_0 := hm.1 _ _ _ _ f_v37_X10_0 (by decide)
              refine lv_istore (lv' := [(4, .int v90), (0, .ref a0), (1, .int a1), (2, .int a2), (3, .int a3)]) hx hb dX11_rests_93 hl (by decide) rfl (fun ls hl => ?_)
              refine lv_iload hx hb dX11_rests_95 (lv_at hl 0 rfl) ?_
              refine lv_iconst (v := (-1)) hx hb dX11_rests_97 (by decide) ?_
              refine lv_icmp_ne (tgt := 104) hx hb dX11_rests_98 (by decide) (fun c_98 => ?_) (fun c_98 => ?_)
              · simp only [fa_lt, fa_le, fa_eq, li_m1] at c_98
                refine lv_iconst (v := 5) hx hb dX11_rests_104 (by decide) ?_
                refine lv_iload_n hx hb dX11_rests_105 rfl (lv_at hl 4 rfl) ?_
                refine lv_iconst (v := 1) hx hb dX11_rests_106 (by decide) ?_
                have J121 : ∀ (H : Heap) (locs : List Loc) (ls : Array Slot) (w121 : va_W) (p121_s0 : Int32), tW (dC, dI) tys κ B A s w121 H locs → Sm [(5, 0), (5, 1), (5, 5), (8, 0), (8, 1), (8, 2), (8, 3), (8, 4), (8, 5), (8, 6)] [33, 34, 35, 36, 37, 42, 43, 44, 45, 46, 47, 48] κ ws w121 → 0 ≤ p121_s0.toInt → p121_s0.toInt ≤ 4 → fld w121 a0 11 11 (.ref v33) → fld w121 a0 11 5 (.ref v37) → fld w121 a0 11 8 (.ref v47) → fld w121 v37 10 0 (.ref v54) → fld w121 v37 10 1 (.ref v40) → fld w121 v40 8 1 (.int v43q0) → lv_has ls 5 [(0, .ref a0), (1, .int a1), (2, .int a2), (3, .int a3), (4, .int v90)] → W p l e (headSpec (ws_u yX11_rests cX11_rests 5 (some .int)) ({ frames := 5, cells := 0, slots := 0, locals := 124 })).room s m ([.ref a0, .int a1, .int a2, .int a3] : List Value).toArray below meth c H locs 0 0 QQ (F0 m 121 ls [.int p121_s0, .int 5]) := by
                  intro H locs ls w121 p121_s0 hw hM l_p121_s0 h_p121_s0 f_a0_X11_11 f_a0_X11_5 f_a0_X11_8 f_v37_X10_0 f_v37_X10_1 f_v40_X8_1 hl
                  refine lv_imul hx hb dX11_rests_121 ?_
                  refine lv_topi (fun v121 e_v121 => ?_)
                  have e_v121 : v121.toInt = 5 * p121_s0.toInt := ml_i e_v121 li_5 rfl (by omega) (by omega)
                  rw [hQ]
                  refine W.widen (k := 0) (n := 0) (Nat.le_refl _) (Nat.le_refl _) ?_
                  exact W.iret (v := v121) hx hb hr (fun t ht hW => ⟨⟨v121, w121, rfl, ⟨hw.2.2.2.2, hM⟩, by rw [ht]; exact hw.2.1, va_K.moved hW.alike hw.1, hw.2.2.1⟩, hw.2.2.2.1.F ht⟩) hw.2.2.2.1.2.2 dX11_rests_122
                refine lv_icmp_ne (tgt := 117) hx hb dX11_rests_107 (by decide) (fun c_107 => ?_) (fun c_107 => ?_)
                · simp only [fa_lt, fa_le, fa_eq, li_1] at c_107
                  refine lv_iload hx hb dX11_rests_117 (lv_at hl 0 rfl) ?_
                  refine lv_iconst (v := 5) hx hb dX11_rests_119 (by decide) ?_
                  refine lv_irem hx hb dX11_rests_120 (ne_i li_5 (by decide)) ?_
                  refine lv_topi (fun v120 e_v120 => ?_)
                  have e_v120 : v120.toInt = v90.toInt % 5 := rm_i e_v120 rfl li_5 (by omega) (by decide)
                  exact J121 _ _ _ w_6 v120 hw hM (by omega) (by omega) f_a0_X11_11 f_a0_X11_5 f_a0_X11_8 f_v37_X10_0 f_v37_X10_1 f_v40_X8_1 (lv_sub hl [1, 2, 3, 4, 0] rfl)
                · simp only [fa_lt, fa_le, fa_eq, li_1] at c_107
                  refine lv_iload hx hb dX11_rests_110 (lv_at hl 0 rfl) ?_
                  refine lv_iconst (v := 5) hx hb dX11_rests_112 (by decide) ?_
                  refine lv_idiv hx hb dX11_rests_113 (ne_i li_5 (by decide)) ?_
                  refine lv_topi (fun v113 e_v113 => ?_)
                  have e_v113 : v113.toInt = v90.toInt / 5 := dv_i e_v113 rfl li_5 (by omega) (by decide)
                  refine lv_goto (tgt := 121) hx hb dX11_rests_114 (by decide) ?_
                  exact J121 _ _ _ w_6 v113 hw hM (by omega) (by omega) f_a0_X11_11 f_a0_X11_5 f_a0_X11_8 f_v37_X10_0 f_v37_X10_1 f_v40_X8_1 (lv_sub hl [1, 2, 3, 4, 0] rfl)
              · simp only [fa_lt, fa_le, fa_eq, li_m1] at c_98
                refine lv_bipush (v := (-2)) hx hb dX11_rests_101 (by decide) ?_
                rw [hQ]
                refine W.widen (k := 0) (n := 0) (Nat.le_refl _) (Nat.le_refl _) ?_
                exact W.iret (v := (-2)) hx hb hr (fun t ht hW => ⟨⟨(-2), w_6, rfl, ⟨hw.2.2.2.2, hM⟩, by rw [ht]; exact hw.2.1, va_K.moved hW.alike hw.1, hw.2.2.1⟩, hw.2.2.2.1.F ht⟩) hw.2.2.2.1.2.2 dX11_rests_103
            · simp only [fa_lt, fa_le, fa_eq, li_0] at c_71
              refine lv_aload_n hx hb dX11_rests_74 rfl (lv_at hl 0 rfl) ?_
              refine t_getk (ci := 11) (C := RX11) (T := TX11) (N := 12) hx hb hts iX11 hown hw rfl 8 (by decide) (hts _ tw_431) (fun _ h9 => h9) dX11_rests_75 f_a0_X11_8 ?_
              refine lv_iload_n hx hb dX11_rests_78 rfl (lv_at hl 1 rfl) ?_
              refine lv_iload_n hx hb dX11_rests_79 rfl (lv_at hl 2 rfl) ?_
              refine t_calli (va_runV (As := [.int a1, .int a2]) (rest := []) ⟨hx, hb, hml, hown, hts⟩ (t_X5_countRests l dC dI tys κ B w_5 hw.2.2.2.2 v47 k_v47 a1 (by omega) (by omega) a2 (by omega) (by omega) H.size) (cwV 2 hts (gUV tw_959 tw_960 tw_961 tw_10 tw_962) rfl rfl rfl (by decide +kernel) ⟨(Nat.le_of_ble_eq_true rfl), (Nat.le_of_ble_eq_true rfl)⟩) ⟨cPre.blind, t_recv hw (ci := 5) k_v47 rfl rfl, cPre.use hw.2.1 hw.1 hw.2.2.1 hE⟩ rfl rfl hl.1 rfl (lv_room (Nat.le_of_ble_eq_true rfl)) dX11_rests_80 ⟨(Nat.le_of_ble_eq_true rfl), (Nat.le_of_ble_eq_true rfl)⟩) hw hA (fun _ _ h => h.1) (fun v80 w_7 H locs hp hw => ?_)
              obtain ⟨_, hm⟩ := hp
              have l_v80 := i32_lo v80
              have h_v80 := i32_hi v80
              have hM := hM.trans hm (by decide) (by decide)
              have f_a0_X11_11 := hm.1 _ _ _ _ f_a0_X11_11 (by decide)
              have f_a0_X11_5 := hm.1 _ _ _ _ f_a0_X11_5 (by decide)
              have f_v37_X10_1 := hm.1 _ _ _ _ f_v37_X10_1 (by decide)
              have f_v40_X8_1 := hm.1 _ _ _ _ f_v40_X8_1 (by decide)
              have f_a0_X11_8 := hm.1 _ _ _ _ f_a0_X11_8 (by decide)
              have f_v37_X10_0 := hm.1 _ _ _ _ f_v37_X10_0 (by decide)
              rw [hQ]
              refine W.widen (k := 0) (n := 0) (Nat.le_refl _) (Nat.le_refl _) ?_
              exact W.iret (v := v80) hx hb hr (fun t ht hW => ⟨⟨v80, w_7, rfl, ⟨hw.2.2.2.2, hM⟩, by rw [ht]; exact hw.2.1, va_K.moved hW.alike hw.1, hw.2.2.1⟩, hw.2.2.2.1.F ht⟩) hw.2.2.2.1.2.2 dX11_rests_83
          · simp only [fa_lt, fa_le, fa_eq, li_2] at c_27
            refine lv_iconst (v := (-1)) hx hb dX11_rests_30 (by decide) ?_
            rw [hQ]
            refine W.widen (k := 0) (n := 0) (Nat.le_refl _) (Nat.le_refl _) ?_
            exact W.iret (v := (-1)) hx hb hr (fun t ht hW => ⟨⟨(-1), w_2, rfl, ⟨hw.2.2.2.2, hM⟩, by rw [ht]; exact hw.2.1, va_K.moved hW.alike hw.1, hw.2.2.1⟩, hw.2.2.2.1.F ht⟩) hw.2.2.2.1.2.2 dX11_rests_31
set_option maxHeartbeats 4000000 in
set_option maxRecDepth 100000 in
theorem t_X11_round (l : Launch) (dC : Nat → ClassId) (dI : Nat → Nat → Nat) (tys : List (ClassId × FieldType)) (κ : tK) (B : Nat) (ws : va_W) (hT : Ty κ tys B ws) (a0 : Nat) (k_a0 : κ a0 = some 11) (a1 : Int32) (sz : Nat) : Met l yX11_round (ws_u yX11_round cX11_round 3 (some .int)) ({ frames := 9, cells := 0, slots := 0, locals := 245 }) (va_Pc [.ref a0, .int a1] (cPre (dC, dI) tys ws sz)) (va_Qi (fun (r : Int32) (w : va_W) => Ty κ tys B w ∧ Sm [] [] κ ws w) (fun w t => cPost (dC, dI) tys w (va_A ws sz) t) (va_A ws sz)) 0 0 (va_A ws sz) := by
  refine Met.ofW (cc := cX11_round) (maxL := 3) (ret := (some .int)) (by decide) rfl ?_
  intro p e s m args below meth c s₁ B0 hml hv
  obtain ⟨rfl, hsz, hP, hK, hD0, hE⟩ := hv
  have hx := B0.exec
  have hb := B0.bytes
  have hr := B0.returns
  have hts0 := atoms_spec (ws := ws_u yX11_round cX11_round 3 (some .int)) B0.pre
  have hts : ∀ w ∈ gT, w.before _ s = true := fun w h => hts0 w (List.mem_cons_of_mem _ h)
  have hown : s.vm.findClass RX11 = some m.cls := findClass_of_methodNamed B0.named
  have hlocks := B0.notSynchronized
  subst hsz
  have hD := hD0.self (sz := s.heap.size)
  generalize hAe : va_A ws s.heap.size = A at hD ⊢
  have hA : ∀ q : Nat, s.heap.size ≤ q → A q := fun q h => by rw [← hAe]; exact Or.inr h
  have hw : tW (dC, dI) tys κ B A s ws s.heap [] := ⟨hK, hP, hD, va_S.rf, hT⟩
  have hM : Sm [] [] κ ws ws := Sm.rf
  clear hP hK hD hD0 hts0
  have l_a1 := i32_lo a1
  have h_a1 := i32_hi a1
  have hl := lv_entry ([.ref a0, .int a1]) (n := 3) (Nat.le_of_ble_eq_true rfl)
  rw [lg_entry_eq]
  generalize (lg_sl ([.ref a0, .int a1]) ++ List.replicate (3 - (lg_sl ([.ref a0, .int a1])).length) Slot.unset).toArray = ls at hl ⊢
  have hl : lv_has ls 3 [(0, .ref a0), (1, .int a1)] := hl
  refine t_start (fun QQ hQ => ?_)
  refine lv_aload_n hx hb dX11_round_0 rfl (lv_at hl 0 rfl) ?_
  refine t_getr (k1 := 10) (ci := 11) (C := RX11) (T := TX11) (N := 12) hx hb hts iX11 hown hw k_a0 rfl rfl rfl 5 (by decide) (hts _ tw_428) (fun _ h9 => h9) dX11_round_1 rfl (fun v1 k_v1 f_a0_X11_5 => ?_)
  refine t_getr (k1 := 0) (ci := 10) (C := RX10) (T := TX10) (N := 8) hx hb hts iX10 hown hw k_v1 rfl rfl rfl 0 (by decide) (hts _ tw_282) (fun _ h9 => h9) dX11_round_4 rfl (fun v4 k_v4 f_v1_X10_0 => ?_)
  refine t_geti (ci := 0) (C := RX0) (T := TX0) (N := 16) hx hb hts iX0 hown hw k_v4 rfl rfl rfl 0 (by decide) (hts _ tw_69) (fun _ h9 => h9) dX11_round_7 rfl (fun v7 l_v7 h_v7 f_v4_X0_0 => ?_)
  have l_v7 : 0 ≤ v7.toInt := l_v7
  have h_v7 : v7.toInt ≤ 1 := h_v7
  refine lv_if_eq (tgt := 22) hx hb dX11_round_10 (by decide) (fun c_10 => ?_) (fun c_10 => ?_)
  · simp only [fa_lt, fa_le, fa_eq, li_0] at c_10
    refine lv_iconst (v := (-1)) hx hb dX11_round_22 (by decide) ?_
    rw [hQ]
    refine W.widen (k := 0) (n := 0) (Nat.le_refl _) (Nat.le_refl _) ?_
    exact W.iret (v := (-1)) hx hb hr (fun t ht hW => ⟨⟨(-1), ws, rfl, ⟨hw.2.2.2.2, hM⟩, by rw [ht]; exact hw.2.1, va_K.moved hW.alike hw.1, hw.2.2.1⟩, hw.2.2.2.1.F ht⟩) hw.2.2.2.1.2.2 dX11_round_23
  · simp only [fa_lt, fa_le, fa_eq, li_0] at c_10
    refine lv_iload_n hx hb dX11_round_13 rfl (lv_at hl 1 rfl) ?_
    refine lv_if_lt (tgt := 22) hx hb dX11_round_14 (by decide) (fun c_14 => ?_) (fun c_14 => ?_)
    · simp only [fa_lt, fa_le, fa_eq, li_0] at c_14
      refine lv_iconst (v := (-1)) hx hb dX11_round_22 (by decide) ?_
      rw [hQ]
      refine W.widen (k := 0) (n := 0) (Nat.le_refl _) (Nat.le_refl _) ?_
      exact W.iret (v := (-1)) hx hb hr (fun t ht hW => ⟨⟨(-1), ws, rfl, ⟨hw.2.2.2.2, hM⟩, by rw [ht]; exact hw.2.1, va_K.moved hW.alike hw.1, hw.2.2.1⟩, hw.2.2.2.1.F ht⟩) hw.2.2.2.1.2.2 dX11_round_23
    · simp only [fa_lt, fa_le, fa_eq, li_0] at c_14
      refine lv_iload_n hx hb dX11_round_17 rfl (lv_at hl 1 rfl) ?_
      refine lv_iconst (v := 2) hx hb dX11_round_18 (by decide) ?_
      refine lv_icmp_le (tgt := 24) hx hb dX11_round_19 (by decide) (fun c_19 => ?_) (fun c_19 => ?_)
      · simp only [fa_lt, fa_le, fa_eq, li_2] at c_19
        refine lv_aload_n hx hb dX11_round_24 rfl (lv_at hl 0 rfl) ?_
        refine t_calli (va_runV (As := []) (rest := []) ⟨hx, hb, hml, hown, hts⟩ (t_X11_bestRound l dC dI tys κ B ws hw.2.2.2.2 a0 k_a0 s.heap.size) (cwV 0 hts (gUV tw_979 tw_981 ts_2_7 tw_1 tw_982) rfl rfl rfl (by decide +kernel) ⟨(Nat.le_of_ble_eq_true rfl), (Nat.le_of_ble_eq_true rfl)⟩) ⟨cPre.blind, t_recv hw (ci := 11) k_a0 rfl rfl, cPre.use hw.2.1 hw.1 hw.2.2.1 hE⟩ rfl rfl hl.1 rfl (lv_room (Nat.le_of_ble_eq_true rfl)) dX11_round_25 ⟨(Nat.le_of_ble_eq_true rfl), (Nat.le_of_ble_eq_true rfl)⟩) hw hA (fun _ _ h => h.2.2.1) (fun v25 w_1 H locs hp hw => ?_)
        obtain ⟨l_v25, h_v25, _, hm⟩ := hp
        have hM := hM.trans hm (by decide) (by decide)
        have f_a0_X11_5 := hm.1 _ _ _ _ f_a0_X11_5 (by decide)
        have f_v1_X10_0 := hm.1 _ _ _ _ f_v1_X10_0 (by decide)
        have f_v4_X0_0 := hm.1 _ _ _ _ f_v4_X0_0 (by decide)
        refine lv_istore_n (lv' := [(2, .int v25), (0, .ref a0), (1, .int a1)]) hx hb dX11_round_28 rfl hl (by decide) rfl (fun ls hl => ?_)
        refine lv_iload_n hx hb dX11_round_29 rfl (lv_at hl 2 rfl) ?_
        rcases Classical.em (a1.toInt = 0) with c_30_0 | c_30_0
        · refine lv_lookup (off := 26) (tgt := 56) hx hb dX11_round_30 (by decide) (by rw [c_30_0] <;> rfl) (by decide) ?_
          refine lv_aload_n hx hb dX11_round_56 rfl (lv_at hl 1 rfl) ?_
          refine t_getk (ci := 11) (C := RX11) (T := TX11) (N := 12) hx hb hts iX11 hown hw rfl 5 (by decide) (hts _ tw_428) (fun _ h9 => h9) dX11_round_57 f_a0_X11_5 ?_
          refine t_getr (k1 := 8) (ci := 10) (C := RX10) (T := TX10) (N := 8) hx hb hts iX10 hown hw k_v1 rfl rfl rfl 1 (by decide) (hts _ tw_285) (fun _ h9 => h9) dX11_round_60 rfl (fun v60 k_v60 f_v1_X10_1 => ?_)
          refine lv_iload_n hx hb dX11_round_63 rfl (lv_at hl 0 rfl) ?_
          refine t_calli (va_runV (As := [.int v25]) (rest := []) ⟨hx, hb, hml, hown, hts⟩ (t_X8_laidBy l dC dI tys κ B w_1 hw.2.2.2.2 v60 k_v60 v25 (by omega) (by omega) H.size) (cwV 1 hts (gUV tw_983 tw_984 tw_985 tw_8 tw_986) rfl rfl rfl (by decide +kernel) ⟨(Nat.le_of_ble_eq_true rfl), (Nat.le_of_ble_eq_true rfl)⟩) ⟨cPre.blind, t_recv hw (ci := 8) k_v60 rfl rfl, cPre.use hw.2.1 hw.1 hw.2.2.1 hE⟩ rfl rfl hl.1 rfl (lv_room (Nat.le_of_ble_eq_true rfl)) dX11_round_64 ⟨(Nat.le_of_ble_eq_true rfl), (Nat.le_of_ble_eq_true rfl)⟩) hw hA (fun _ _ h => h.1) (fun v64 w_2 H locs hp hw => ?_)
          obtain ⟨_, hm⟩ := hp
          have l_v64 := i32_lo v64
          have h_v64 := i32_hi v64
          have hM := hM.trans hm (by decide) (by decide)
          have f_a0_X11_5 := hm.1 _ _ _ _ f_a0_X11_5 (by decide)
          have f_v1_X10_0 := hm.1 _ _ _ _ f_v1_X10_0 (by decide)
          have f_v4_X0_0 := hm.1 _ _ _ _ f_v4_X0_0 (by decide)
          have f_v1_X10_1 := hm.1 _ _ _ _ f_v1_X10_1 (by decide)
          rw [hQ]
          refine W.widen (k := 0) (n := 0) (Nat.le_refl _) (Nat.le_refl _) ?_
          exact W.iret (v := v64) hx hb hr (fun t ht hW => ⟨⟨v64, w_2, rfl, ⟨hw.2.2.2.2, hM⟩, by rw [ht]; exact hw.2.1, va_K.moved hW.alike hw.1, hw.2.2.1⟩, hw.2.2.2.1.F ht⟩) hw.2.2.2.1.2.2 dX11_round_67
        rcases Classical.em (a1.toInt = 1) with c_30_1 | c_30_1
        · refine lv_lookup (off := 38) (tgt := 68) hx hb dX11_round_30 (by decide) (by rw [c_30_1] <;> rfl) (by decide) ?_
          refine lv_iload_n hx hb dX11_round_68 rfl (lv_at hl 0 rfl) ?_
          rw [hQ]
          refine W.widen (k := 0) (n := 0) (Nat.le_refl _) (Nat.le_refl _) ?_
          exact W.iret (v := v25) hx hb hr (fun t ht hW => ⟨⟨v25, w_1, rfl, ⟨hw.2.2.2.2, hM⟩, by rw [ht]; exact hw.2.1, va_K.moved hW.alike hw.1, hw.2.2.1⟩, hw.2.2.2.1.F ht⟩) hw.2.2.2.1.2.2 dX11_round_69
        · refine lv_lookup (off := 40) (tgt := 70) hx hb dX11_round_30 (by decide) (by simp only [Op.lookupswitch.offset_cons, eq_false (Ne.symm c_30_0), eq_false (Ne.symm c_30_1), if_false] <;> rfl) (by decide) ?_
          refine lv_aload_n hx hb dX11_round_70 rfl (lv_at hl 1 rfl) ?_
          refine t_getk (ci := 11) (C := RX11) (T := TX11) (N := 12) hx hb hts iX11 hown hw rfl 5 (by decide) (hts _ tw_428) (fun _ h9 => h9) dX11_round_71 f_a0_X11_5 ?_
          refine t_getk (ci := 10) (C := RX10) (T := TX10) (N := 8) hx hb hts iX10 hown hw rfl 0 (by decide) (hts _ tw_282) (fun _ h9 => h9) dX11_round_74 f_v1_X10_0 ?_
          refine lv_iconst (v := 0) hx hb dX11_round_77 (by decide) ?_
          refine lv_iload_n hx hb dX11_round_78 rfl (lv_at hl 0 rfl) ?_
          refine t_calli (va_runV (As := [.int 0, .int v25]) (rest := []) ⟨hx, hb, hml, hown, hts⟩ (t_X0_roundHours l dC dI tys κ B w_1 hw.2.2.2.2 v4 k_v4 0 (by decide) (by decide) v25 (by omega) (by omega) H.size) (cwV 2 hts (gUV tw_987 tw_988 tw_989 tw_4 tw_990) rfl rfl rfl (by decide +kernel) ⟨(Nat.le_of_ble_eq_true rfl), (Nat.le_of_ble_eq_true rfl)⟩) ⟨cPre.blind, t_recv hw (ci := 0) k_v4 rfl rfl, cPre.use hw.2.1 hw.1 hw.2.2.1 hE⟩ rfl rfl hl.1 rfl (lv_room (Nat.le_of_ble_eq_true rfl)) dX11_round_79 ⟨(Nat.le_of_ble_eq_true rfl), (Nat.le_of_ble_eq_true rfl)⟩) hw hA (fun _ _ h => h.1) (fun v79 w_3 H locs hp hw => ?_)
          obtain ⟨_, hm⟩ := hp
          have l_v79 := i32_lo v79
          have h_v79 := i32_hi v79
          have hM := hM.trans hm (by decide) (by decide)
          have f_a0_X11_5 := hm.1 _ _ _ _ f_a0_X11_5 (by decide)
          have f_v1_X10_0 := hm.1 _ _ _ _ f_v1_X10_0 (by decide)
          have f_v4_X0_0 := hm.1 _ _ _ _ f_v4_X0_0 (by decide)
          rw [hQ]
          refine W.widen (k := 0) (n := 0) (Nat.le_refl _) (Nat.le_refl _) ?_
          exact W.iret (v := v79) hx hb hr (fun t ht hW => ⟨⟨v79, w_3, rfl, ⟨hw.2.2.2.2, hM⟩, by rw [ht]; exact hw.2.1, va_K.moved hW.alike hw.1, hw.2.2.1⟩, hw.2.2.2.1.F ht⟩) hw.2.2.2.1.2.2 dX11_round_82
      · simp only [fa_lt, fa_le, fa_eq, li_2] at c_19
        refine lv_iconst (v := (-1)) hx hb dX11_round_22 (by decide) ?_
        rw [hQ]
        refine W.widen (k := 0) (n := 0) (Nat.le_refl _) (Nat.le_refl _) ?_
        exact W.iret (v := (-1)) hx hb hr (fun t ht hW => ⟨⟨(-1), ws, rfl, ⟨hw.2.2.2.2, hM⟩, by rw [ht]; exact hw.2.1, va_K.moved hW.alike hw.1, hw.2.2.1⟩, hw.2.2.2.1.F ht⟩) hw.2.2.2.1.2.2 dX11_round_23
set_option maxHeartbeats 4000000 in
set_option maxRecDepth 100000 in
theorem t_X6_beginClause (l : Launch) (dC : Nat → ClassId) (dI : Nat → Nat → Nat) (tys : List (ClassId × FieldType)) (κ : tK) (B : Nat) (ws : va_W) (hT : Ty κ tys B ws) (a0 : Nat) (k_a0 : κ a0 = some 6) (sz : Nat) : Met l yX6_beginClause (ws_u yX6_beginClause cX6_beginClause 1 none) ({ frames := 0, cells := 0, slots := 0, locals := 0 }) (va_Pc [.ref a0] (cPre (dC, dI) tys ws sz)) (va_Qv (fun (w : va_W) => Ty κ tys B w ∧ Sm [] [39] κ ws w) (fun w t => cPost (dC, dI) tys w (va_A ws sz) t) (va_A ws sz)) 0 0 (va_A ws sz) := by
  refine Met.ofW (cc := cX6_beginClause) (maxL := 1) (ret := none) (by decide) rfl ?_
  intro p e s m args below meth c s₁ B0 hml hv
  obtain ⟨rfl, hsz, hP, hK, hD0, hE⟩ := hv
  have hx := B0.exec
  have hb := B0.bytes
  have hr := B0.returns
  have hts0 := atoms_spec (ws := ws_u yX6_beginClause cX6_beginClause 1 none) B0.pre
  have hts : ∀ w ∈ gT, w.before _ s = true := fun w h => hts0 w (List.mem_cons_of_mem _ h)
  have hown : s.vm.findClass RX6 = some m.cls := findClass_of_methodNamed B0.named
  have hlocks := B0.notSynchronized
  subst hsz
  have hD := hD0.self (sz := s.heap.size)
  generalize hAe : va_A ws s.heap.size = A at hD ⊢
  have hA : ∀ q : Nat, s.heap.size ≤ q → A q := fun q h => by rw [← hAe]; exact Or.inr h
  have hw : tW (dC, dI) tys κ B A s ws s.heap [] := ⟨hK, hP, hD, va_S.rf, hT⟩
  have hM : Sm [] [39] κ ws ws := Sm.rf
  clear hP hK hD hD0 hts0
  have hl := lv_entry ([.ref a0]) (n := 1) (Nat.le_of_ble_eq_true rfl)
  rw [lg_entry_eq]
  generalize (lg_sl ([.ref a0]) ++ List.replicate (1 - (lg_sl ([.ref a0])).length) Slot.unset).toArray = ls at hl ⊢
  have hl : lv_has ls 1 [(0, .ref a0)] := hl
  refine t_start (fun QQ hQ => ?_)
  refine lv_aload_n hx hb dX6_beginClause_0 rfl (lv_at hl 0 rfl) ?_
  refine t_geti (ci := 6) (C := RX6) (T := TX6) (N := 7) hx hb hts iX6 hown hw k_a0 rfl rfl rfl 5 (by decide) (hts _ tw_188) (fun _ h9 => h9) dX6_beginClause_1 rfl (fun v1 l_v1 h_v1 f_a0_X6_5 => ?_)
  have l_v1 : 0 ≤ v1.toInt := l_v1
  have h_v1 : v1.toInt ≤ 12 := h_v1
  refine lv_bipush (v := 12) hx hb dX6_beginClause_4 (by decide) ?_
  refine lv_icmp_ge (tgt := 22) hx hb dX6_beginClause_6 (by decide) (fun c_6 => ?_) (fun c_6 => ?_)
  · simp only [fa_lt, fa_le, fa_eq, li_12] at c_6
    rw [hQ]
    refine W.widen (k := 0) (n := 0) (Nat.le_refl _) (Nat.le_refl _) ?_
    exact W.vret hx hb hr (fun t ht hW => ⟨⟨ws, rfl, ⟨hw.2.2.2.2, hM⟩, by rw [ht]; exact hw.2.1, va_K.moved hW.alike hw.1, hw.2.2.1⟩, hw.2.2.2.1.F ht⟩) hw.2.2.2.1.2.2 dX6_beginClause_22
  · simp only [fa_lt, fa_le, fa_eq, li_12] at c_6
    refine lv_aload_n hx hb dX6_beginClause_9 rfl (lv_at hl 0 rfl) ?_
    refine t_getr (k1 := 39) (ci := 6) (C := RX6) (T := TX6) (N := 7) hx hb hts iX6 hown hw k_a0 rfl rfl rfl 2 (by decide) (hts _ tw_185) (fun _ h9 => h9) dX6_beginClause_10 rfl (fun v10 k_v10 f_a0_X6_2 => ?_)
    refine lv_aload_n hx hb dX6_beginClause_13 rfl (lv_at hl 0 rfl) ?_
    refine t_getk (ci := 6) (C := RX6) (T := TX6) (N := 7) hx hb hts iX6 hown hw rfl 5 (by decide) (hts _ tw_188) (fun _ h9 => h9) dX6_beginClause_14 f_a0_X6_5 ?_
    refine lv_aload_n hx hb dX6_beginClause_17 rfl (lv_at hl 0 rfl) ?_
    refine t_geti (ci := 6) (C := RX6) (T := TX6) (N := 7) hx hb hts iX6 hown hw k_a0 rfl rfl rfl 1 (by decide) (hts _ tw_184) (fun _ h9 => h9) dX6_beginClause_18 rfl (fun v18 l_v18 h_v18 f_a0_X6_1 => ?_)
    have l_v18 : 0 ≤ v18.toInt := l_v18
    have h_v18 : v18.toInt ≤ 400 := h_v18
    refine t_iast hx hb hw k_v10 rfl rfl (by omega) (show v1.toInt < 12 by omega) (show 0 ≤ v18.toInt by omega) (show v18.toInt ≤ 400 by omega) dX6_beginClause_21 (fun w_1 H locs hw u => ?_)
    have hM := hM.up3 u k_v10 (by decide)
    have f_a0_X6_5 := u.1 _ _ _ _ f_a0_X6_5
    have f_a0_X6_2 := u.1 _ _ _ _ f_a0_X6_2
    have f_a0_X6_1 := u.1 _ _ _ _ f_a0_X6_1
    rw [hQ]
    refine W.widen (k := 0) (n := 0) (Nat.le_refl _) (Nat.le_refl _) ?_
    exact W.vret hx hb hr (fun t ht hW => ⟨⟨w_1, rfl, ⟨hw.2.2.2.2, hM⟩, by rw [ht]; exact hw.2.1, va_K.moved hW.alike hw.1, hw.2.2.1⟩, hw.2.2.2.1.F ht⟩) hw.2.2.2.1.2.2 dX6_beginClause_22
set_option maxHeartbeats 4000000 in
set_option maxRecDepth 100000 in
theorem t_X6_beginTest (l : Launch) (dC : Nat → ClassId) (dI : Nat → Nat → Nat) (tys : List (ClassId × FieldType)) (κ : tK) (B : Nat) (ws : va_W) (hT : Ty κ tys B ws) (a0 : Nat) (k_a0 : κ a0 = some 6) (sz : Nat) : Met l yX6_beginTest (ws_u yX6_beginTest cX6_beginTest 1 none) ({ frames := 0, cells := 0, slots := 0, locals := 0 }) (va_Pc [.ref a0] (cPre (dC, dI) tys ws sz)) (va_Qv (fun (w : va_W) => Ty κ tys B w ∧ Sm [] [40] κ ws w) (fun w t => cPost (dC, dI) tys w (va_A ws sz) t) (va_A ws sz)) 0 0 (va_A ws sz) := by
  refine Met.ofW (cc := cX6_beginTest) (maxL := 1) (ret := none) (by decide) rfl ?_
  intro p e s m args below meth c s₁ B0 hml hv
  obtain ⟨rfl, hsz, hP, hK, hD0, hE⟩ := hv
  have hx := B0.exec
  have hb := B0.bytes
  have hr := B0.returns
  have hts0 := atoms_spec (ws := ws_u yX6_beginTest cX6_beginTest 1 none) B0.pre
  have hts : ∀ w ∈ gT, w.before _ s = true := fun w h => hts0 w (List.mem_cons_of_mem _ h)
  have hown : s.vm.findClass RX6 = some m.cls := findClass_of_methodNamed B0.named
  have hlocks := B0.notSynchronized
  subst hsz
  have hD := hD0.self (sz := s.heap.size)
  generalize hAe : va_A ws s.heap.size = A at hD ⊢
  have hA : ∀ q : Nat, s.heap.size ≤ q → A q := fun q h => by rw [← hAe]; exact Or.inr h
  have hw : tW (dC, dI) tys κ B A s ws s.heap [] := ⟨hK, hP, hD, va_S.rf, hT⟩
  have hM : Sm [] [40] κ ws ws := Sm.rf
  clear hP hK hD hD0 hts0
  have hl := lv_entry ([.ref a0]) (n := 1) (Nat.le_of_ble_eq_true rfl)
  rw [lg_entry_eq]
  generalize (lg_sl ([.ref a0]) ++ List.replicate (1 - (lg_sl ([.ref a0])).length) Slot.unset).toArray = ls at hl ⊢
  have hl : lv_has ls 1 [(0, .ref a0)] := hl
  refine t_start (fun QQ hQ => ?_)
  refine lv_aload_n hx hb dX6_beginTest_0 rfl (lv_at hl 0 rfl) ?_
  refine t_geti (ci := 6) (C := RX6) (T := TX6) (N := 7) hx hb hts iX6 hown hw k_a0 rfl rfl rfl 5 (by decide) (hts _ tw_188) (fun _ h9 => h9) dX6_beginTest_1 rfl (fun v1 l_v1 h_v1 f_a0_X6_5 => ?_)
  have l_v1 : 0 ≤ v1.toInt := l_v1
  have h_v1 : v1.toInt ≤ 12 := h_v1
  refine lv_bipush (v := 12) hx hb dX6_beginTest_4 (by decide) ?_
  refine lv_icmp_ge (tgt := 22) hx hb dX6_beginTest_6 (by decide) (fun c_6 => ?_) (fun c_6 => ?_)
  · simp only [fa_lt, fa_le, fa_eq, li_12] at c_6
    rw [hQ]
    refine W.widen (k := 0) (n := 0) (Nat.le_refl _) (Nat.le_refl _) ?_
    exact W.vret hx hb hr (fun t ht hW => ⟨⟨ws, rfl, ⟨hw.2.2.2.2, hM⟩, by rw [ht]; exact hw.2.1, va_K.moved hW.alike hw.1, hw.2.2.1⟩, hw.2.2.2.1.F ht⟩) hw.2.2.2.1.2.2 dX6_beginTest_22
  · simp only [fa_lt, fa_le, fa_eq, li_12] at c_6
    refine lv_aload_n hx hb dX6_beginTest_9 rfl (lv_at hl 0 rfl) ?_
    refine t_getr (k1 := 40) (ci := 6) (C := RX6) (T := TX6) (N := 7) hx hb hts iX6 hown hw k_a0 rfl rfl rfl 3 (by decide) (hts _ tw_186) (fun _ h9 => h9) dX6_beginTest_10 rfl (fun v10 k_v10 f_a0_X6_3 => ?_)
    refine lv_aload_n hx hb dX6_beginTest_13 rfl (lv_at hl 0 rfl) ?_
    refine t_getk (ci := 6) (C := RX6) (T := TX6) (N := 7) hx hb hts iX6 hown hw rfl 5 (by decide) (hts _ tw_188) (fun _ h9 => h9) dX6_beginTest_14 f_a0_X6_5 ?_
    refine lv_aload_n hx hb dX6_beginTest_17 rfl (lv_at hl 0 rfl) ?_
    refine t_geti (ci := 6) (C := RX6) (T := TX6) (N := 7) hx hb hts iX6 hown hw k_a0 rfl rfl rfl 1 (by decide) (hts _ tw_184) (fun _ h9 => h9) dX6_beginTest_18 rfl (fun v18 l_v18 h_v18 f_a0_X6_1 => ?_)
    have l_v18 : 0 ≤ v18.toInt := l_v18
    have h_v18 : v18.toInt ≤ 400 := h_v18
    refine t_iast hx hb hw k_v10 rfl rfl (by omega) (show v1.toInt < 12 by omega) (show 0 ≤ v18.toInt by omega) (show v18.toInt ≤ 400 by omega) dX6_beginTest_21 (fun w_1 H locs hw u => ?_)
    have hM := hM.up3 u k_v10 (by decide)
    have f_a0_X6_5 := u.1 _ _ _ _ f_a0_X6_5
    have f_a0_X6_3 := u.1 _ _ _ _ f_a0_X6_3
    have f_a0_X6_1 := u.1 _ _ _ _ f_a0_X6_1
    rw [hQ]
    refine W.widen (k := 0) (n := 0) (Nat.le_refl _) (Nat.le_refl _) ?_
    exact W.vret hx hb hr (fun t ht hW => ⟨⟨w_1, rfl, ⟨hw.2.2.2.2, hM⟩, by rw [ht]; exact hw.2.1, va_K.moved hW.alike hw.1, hw.2.2.1⟩, hw.2.2.2.1.F ht⟩) hw.2.2.2.1.2.2 dX6_beginTest_22
set_option maxHeartbeats 4000000 in
set_option maxRecDepth 100000 in
theorem t_X6_clear (l : Launch) (dC : Nat → ClassId) (dI : Nat → Nat → Nat) (tys : List (ClassId × FieldType)) (κ : tK) (B : Nat) (ws : va_W) (hT : Ty κ tys B ws) (a0 : Nat) (k_a0 : κ a0 = some 6) (sz : Nat) : Met l yX6_clear (ws_u yX6_clear cX6_clear 1 none) ({ frames := 0, cells := 0, slots := 0, locals := 0 }) (va_Pc [.ref a0] (cPre (dC, dI) tys ws sz)) (va_Qv (fun (w : va_W) => Ty κ tys B w ∧ Sm [(6, 1), (6, 5)] [] κ ws w) (fun w t => cPost (dC, dI) tys w (va_A ws sz) t) (va_A ws sz)) 0 0 (va_A ws sz) := by
  refine Met.ofW (cc := cX6_clear) (maxL := 1) (ret := none) (by decide) rfl ?_
  intro p e s m args below meth c s₁ B0 hml hv
  obtain ⟨rfl, hsz, hP, hK, hD0, hE⟩ := hv
  have hx := B0.exec
  have hb := B0.bytes
  have hr := B0.returns
  have hts0 := atoms_spec (ws := ws_u yX6_clear cX6_clear 1 none) B0.pre
  have hts : ∀ w ∈ gT, w.before _ s = true := fun w h => hts0 w (List.mem_cons_of_mem _ h)
  have hown : s.vm.findClass RX6 = some m.cls := findClass_of_methodNamed B0.named
  have hlocks := B0.notSynchronized
  subst hsz
  have hD := hD0.self (sz := s.heap.size)
  generalize hAe : va_A ws s.heap.size = A at hD ⊢
  have hA : ∀ q : Nat, s.heap.size ≤ q → A q := fun q h => by rw [← hAe]; exact Or.inr h
  have hw : tW (dC, dI) tys κ B A s ws s.heap [] := ⟨hK, hP, hD, va_S.rf, hT⟩
  have hM : Sm [(6, 1), (6, 5)] [] κ ws ws := Sm.rf
  clear hP hK hD hD0 hts0
  have hl := lv_entry ([.ref a0]) (n := 1) (Nat.le_of_ble_eq_true rfl)
  rw [lg_entry_eq]
  generalize (lg_sl ([.ref a0]) ++ List.replicate (1 - (lg_sl ([.ref a0])).length) Slot.unset).toArray = ls at hl ⊢
  have hl : lv_has ls 1 [(0, .ref a0)] := hl
  refine t_start (fun QQ hQ => ?_)
  refine lv_aload_n hx hb dX6_clear_0 rfl (lv_at hl 0 rfl) ?_
  refine lv_iconst (v := 0) hx hb dX6_clear_1 (by decide) ?_
  refine t_put (ci := 6) (C := RX6) (T := TX6) (N := 7) (v := .int 0) hx hb hts iX6 tyX6 tyX6_ok nmX6 hown hw k_a0 rfl rfl rfl 1 (by decide) (hts _ tw_184) (fun _ h9 => h9) rfl (tyX6_ok 1 (by decide)) rfl rfl (okV.int rfl (by decide) (by decide)) dX6_clear_2 (fun w_1 H locs hw u => ?_)
  have hM := hM.up1 u (by decide)
  have f_a0_X6_1 := u.2.2
  refine lv_aload_n hx hb dX6_clear_5 rfl (lv_at hl 0 rfl) ?_
  refine lv_iconst (v := 0) hx hb dX6_clear_6 (by decide) ?_
  refine t_put (ci := 6) (C := RX6) (T := TX6) (N := 7) (v := .int 0) hx hb hts iX6 tyX6 tyX6_ok nmX6 hown hw k_a0 rfl rfl rfl 5 (by decide) (hts _ tw_188) (fun _ h9 => h9) rfl (tyX6_ok 5 (by decide)) rfl rfl (okV.int rfl (by decide) (by decide)) dX6_clear_7 (fun w_2 H locs hw u => ?_)
  have hM := hM.up1 u (by decide)
  have f_a0_X6_1 := u.1 _ _ _ _ f_a0_X6_1 (Or.inr (Or.inr (by decide)))
  have f_a0_X6_5 := u.2.2
  rw [hQ]
  refine W.widen (k := 0) (n := 0) (Nat.le_refl _) (Nat.le_refl _) ?_
  exact W.vret hx hb hr (fun t ht hW => ⟨⟨w_2, rfl, ⟨hw.2.2.2.2, hM⟩, by rw [ht]; exact hw.2.1, va_K.moved hW.alike hw.1, hw.2.2.1⟩, hw.2.2.2.1.F ht⟩) hw.2.2.2.1.2.2 dX6_clear_10
set_option maxHeartbeats 4000000 in
set_option maxRecDepth 100000 in
theorem t_X6_endClause (l : Launch) (dC : Nat → ClassId) (dI : Nat → Nat → Nat) (tys : List (ClassId × FieldType)) (κ : tK) (B : Nat) (ws : va_W) (hT : Ty κ tys B ws) (a0 : Nat) (k_a0 : κ a0 = some 6) (sz : Nat) : Met l yX6_endClause (ws_u yX6_endClause cX6_endClause 1 none) ({ frames := 0, cells := 0, slots := 0, locals := 0 }) (va_Pc [.ref a0] (cPre (dC, dI) tys ws sz)) (va_Qv (fun (w : va_W) => Ty κ tys B w ∧ Sm [(6, 5)] [41] κ ws w) (fun w t => cPost (dC, dI) tys w (va_A ws sz) t) (va_A ws sz)) 0 0 (va_A ws sz) := by
  refine Met.ofW (cc := cX6_endClause) (maxL := 1) (ret := none) (by decide) rfl ?_
  intro p e s m args below meth c s₁ B0 hml hv
  obtain ⟨rfl, hsz, hP, hK, hD0, hE⟩ := hv
  have hx := B0.exec
  have hb := B0.bytes
  have hr := B0.returns
  have hts0 := atoms_spec (ws := ws_u yX6_endClause cX6_endClause 1 none) B0.pre
  have hts : ∀ w ∈ gT, w.before _ s = true := fun w h => hts0 w (List.mem_cons_of_mem _ h)
  have hown : s.vm.findClass RX6 = some m.cls := findClass_of_methodNamed B0.named
  have hlocks := B0.notSynchronized
  subst hsz
  have hD := hD0.self (sz := s.heap.size)
  generalize hAe : va_A ws s.heap.size = A at hD ⊢
  have hA : ∀ q : Nat, s.heap.size ≤ q → A q := fun q h => by rw [← hAe]; exact Or.inr h
  have hw : tW (dC, dI) tys κ B A s ws s.heap [] := ⟨hK, hP, hD, va_S.rf, hT⟩
  have hM : Sm [(6, 5)] [41] κ ws ws := Sm.rf
  clear hP hK hD hD0 hts0
  have hl := lv_entry ([.ref a0]) (n := 1) (Nat.le_of_ble_eq_true rfl)
  rw [lg_entry_eq]
  generalize (lg_sl ([.ref a0]) ++ List.replicate (1 - (lg_sl ([.ref a0])).length) Slot.unset).toArray = ls at hl ⊢
  have hl : lv_has ls 1 [(0, .ref a0)] := hl
  refine t_start (fun QQ hQ => ?_)
  refine lv_aload_n hx hb dX6_endClause_0 rfl (lv_at hl 0 rfl) ?_
  refine t_geti (ci := 6) (C := RX6) (T := TX6) (N := 7) hx hb hts iX6 hown hw k_a0 rfl rfl rfl 5 (by decide) (hts _ tw_188) (fun _ h9 => h9) dX6_endClause_1 rfl (fun v1 l_v1 h_v1 f_a0_X6_5 => ?_)
  have l_v1 : 0 ≤ v1.toInt := l_v1
  have h_v1 : v1.toInt ≤ 12 := h_v1
  refine lv_bipush (v := 12) hx hb dX6_endClause_4 (by decide) ?_
  refine lv_icmp_ge (tgt := 32) hx hb dX6_endClause_6 (by decide) (fun c_6 => ?_) (fun c_6 => ?_)
  · simp only [fa_lt, fa_le, fa_eq, li_12] at c_6
    rw [hQ]
    refine W.widen (k := 0) (n := 0) (Nat.le_refl _) (Nat.le_refl _) ?_
    exact W.vret hx hb hr (fun t ht hW => ⟨⟨ws, rfl, ⟨hw.2.2.2.2, hM⟩, by rw [ht]; exact hw.2.1, va_K.moved hW.alike hw.1, hw.2.2.1⟩, hw.2.2.2.1.F ht⟩) hw.2.2.2.1.2.2 dX6_endClause_32
  · simp only [fa_lt, fa_le, fa_eq, li_12] at c_6
    refine lv_aload_n hx hb dX6_endClause_9 rfl (lv_at hl 0 rfl) ?_
    refine t_getr (k1 := 41) (ci := 6) (C := RX6) (T := TX6) (N := 7) hx hb hts iX6 hown hw k_a0 rfl rfl rfl 4 (by decide) (hts _ tw_187) (fun _ h9 => h9) dX6_endClause_10 rfl (fun v10 k_v10 f_a0_X6_4 => ?_)
    refine lv_aload_n hx hb dX6_endClause_13 rfl (lv_at hl 0 rfl) ?_
    refine t_getk (ci := 6) (C := RX6) (T := TX6) (N := 7) hx hb hts iX6 hown hw rfl 5 (by decide) (hts _ tw_188) (fun _ h9 => h9) dX6_endClause_14 f_a0_X6_5 ?_
    refine lv_aload_n hx hb dX6_endClause_17 rfl (lv_at hl 0 rfl) ?_
    refine t_geti (ci := 6) (C := RX6) (T := TX6) (N := 7) hx hb hts iX6 hown hw k_a0 rfl rfl rfl 1 (by decide) (hts _ tw_184) (fun _ h9 => h9) dX6_endClause_18 rfl (fun v18 l_v18 h_v18 f_a0_X6_1 => ?_)
    have l_v18 : 0 ≤ v18.toInt := l_v18
    have h_v18 : v18.toInt ≤ 400 := h_v18
    refine t_iast hx hb hw k_v10 rfl rfl (by omega) (show v1.toInt < 12 by omega) (show 0 ≤ v18.toInt by omega) (show v18.toInt ≤ 400 by omega) dX6_endClause_21 (fun w_1 H locs hw u => ?_)
    have hM := hM.up3 u k_v10 (by decide)
    have f_a0_X6_5 := u.1 _ _ _ _ f_a0_X6_5
    have f_a0_X6_4 := u.1 _ _ _ _ f_a0_X6_4
    have f_a0_X6_1 := u.1 _ _ _ _ f_a0_X6_1
    refine lv_aload_n hx hb dX6_endClause_22 rfl (lv_at hl 0 rfl) ?_
    refine lv_dup hx hb dX6_endClause_23 rfl ?_
    refine t_getk (ci := 6) (C := RX6) (T := TX6) (N := 7) hx hb hts iX6 hown hw rfl 5 (by decide) (hts _ tw_188) (fun _ h9 => h9) dX6_endClause_24 f_a0_X6_5 ?_
    refine lv_iconst (v := 1) hx hb dX6_endClause_27 (by decide) ?_
    refine lv_iadd hx hb dX6_endClause_28 ?_
    refine lv_topi (fun v28 e_v28 => ?_)
    have e_v28 : v28.toInt = v1.toInt + 1 := ad_i e_v28 rfl li_1 (by omega) (by omega)
    refine t_put (ci := 6) (C := RX6) (T := TX6) (N := 7) (v := .int v28) hx hb hts iX6 tyX6 tyX6_ok nmX6 hown hw k_a0 rfl rfl rfl 5 (by decide) (hts _ tw_188) (fun _ h9 => h9) rfl (tyX6_ok 5 (by decide)) rfl rfl (okV.int rfl (by omega) (by omega)) dX6_endClause_29 (fun w_2 H locs hw u => ?_)
    have hM := hM.up1 u (by decide)
    have f_a0_X6_5 := u.2.2
    have f_a0_X6_4 := u.1 _ _ _ _ f_a0_X6_4 (Or.inr (Or.inr (by decide)))
    have f_a0_X6_1 := u.1 _ _ _ _ f_a0_X6_1 (Or.inr (Or.inr (by decide)))
    rw [hQ]
    refine W.widen (k := 0) (n := 0) (Nat.le_refl _) (Nat.le_refl _) ?_
    exact W.vret hx hb hr (fun t ht hW => ⟨⟨w_2, rfl, ⟨hw.2.2.2.2, hM⟩, by rw [ht]; exact hw.2.1, va_K.moved hW.alike hw.1, hw.2.2.1⟩, hw.2.2.2.1.F ht⟩) hw.2.2.2.1.2.2 dX6_endClause_32
set_option maxHeartbeats 4000000 in
set_option maxRecDepth 100000 in
theorem t_X6_add (l : Launch) (dC : Nat → ClassId) (dI : Nat → Nat → Nat) (tys : List (ClassId × FieldType)) (κ : tK) (B : Nat) (ws : va_W) (hT : Ty κ tys B ws) (a0 : Nat) (k_a0 : κ a0 = some 6) (a1 : Int32) (sz : Nat) : Met l yX6_add (ws_u yX6_add cX6_add 2 none) ({ frames := 0, cells := 0, slots := 0, locals := 0 }) (va_Pc [.ref a0, .int a1] (cPre (dC, dI) tys ws sz)) (va_Qv (fun (w : va_W) => Ty κ tys B w ∧ Sm [(6, 1)] [38] κ ws w) (fun w t => cPost (dC, dI) tys w (va_A ws sz) t) (va_A ws sz)) 0 0 (va_A ws sz) := by
  refine Met.ofW (cc := cX6_add) (maxL := 2) (ret := none) (by decide) rfl ?_
  intro p e s m args below meth c s₁ B0 hml hv
  obtain ⟨rfl, hsz, hP, hK, hD0, hE⟩ := hv
  have hx := B0.exec
  have hb := B0.bytes
  have hr := B0.returns
  have hts0 := atoms_spec (ws := ws_u yX6_add cX6_add 2 none) B0.pre
  have hts : ∀ w ∈ gT, w.before _ s = true := fun w h => hts0 w (List.mem_cons_of_mem _ h)
  have hown : s.vm.findClass RX6 = some m.cls := findClass_of_methodNamed B0.named
  have hlocks := B0.notSynchronized
  subst hsz
  have hD := hD0.self (sz := s.heap.size)
  generalize hAe : va_A ws s.heap.size = A at hD ⊢
  have hA : ∀ q : Nat, s.heap.size ≤ q → A q := fun q h => by rw [← hAe]; exact Or.inr h
  have hw : tW (dC, dI) tys κ B A s ws s.heap [] := ⟨hK, hP, hD, va_S.rf, hT⟩
  have hM : Sm [(6, 1)] [38] κ ws ws := Sm.rf
  clear hP hK hD hD0 hts0
  have l_a1 := i32_lo a1
  have h_a1 := i32_hi a1
  have hl := lv_entry ([.ref a0, .int a1]) (n := 2) (Nat.le_of_ble_eq_true rfl)
  rw [lg_entry_eq]
  generalize (lg_sl ([.ref a0, .int a1]) ++ List.replicate (2 - (lg_sl ([.ref a0, .int a1])).length) Slot.unset).toArray = ls at hl ⊢
  have hl : lv_has ls 2 [(0, .ref a0), (1, .int a1)] := hl
  refine t_start (fun QQ hQ => ?_)
  refine lv_aload_n hx hb dX6_add_0 rfl (lv_at hl 0 rfl) ?_
  refine t_geti (ci := 6) (C := RX6) (T := TX6) (N := 7) hx hb hts iX6 hown hw k_a0 rfl rfl rfl 1 (by decide) (hts _ tw_184) (fun _ h9 => h9) dX6_add_1 rfl (fun v1 l_v1 h_v1 f_a0_X6_1 => ?_)
  have l_v1 : 0 ≤ v1.toInt := l_v1
  have h_v1 : v1.toInt ≤ 400 := h_v1
  refine lv_aload_n hx hb dX6_add_4 rfl (lv_at hl 0 rfl) ?_
  refine t_getr (k1 := 38) (ci := 6) (C := RX6) (T := TX6) (N := 7) hx hb hts iX6 hown hw k_a0 rfl rfl rfl 0 (by decide) (hts _ tw_183) (fun _ h9 => h9) dX6_add_5 rfl (fun v5 k_v5 f_a0_X6_0 => ?_)
  refine t_alen (v := 400) hx hb hw k_v5 rfl (by decide) dX6_add_8 ?_
  refine lv_icmp_ge (tgt := 32) hx hb dX6_add_9 (by decide) (fun c_9 => ?_) (fun c_9 => ?_)
  · simp only [fa_lt, fa_le, fa_eq, li_400] at c_9
    rw [hQ]
    refine W.widen (k := 0) (n := 0) (Nat.le_refl _) (Nat.le_refl _) ?_
    exact W.vret hx hb hr (fun t ht hW => ⟨⟨ws, rfl, ⟨hw.2.2.2.2, hM⟩, by rw [ht]; exact hw.2.1, va_K.moved hW.alike hw.1, hw.2.2.1⟩, hw.2.2.2.1.F ht⟩) hw.2.2.2.1.2.2 dX6_add_32
  · simp only [fa_lt, fa_le, fa_eq, li_400] at c_9
    refine lv_aload_n hx hb dX6_add_12 rfl (lv_at hl 0 rfl) ?_
    refine t_getk (ci := 6) (C := RX6) (T := TX6) (N := 7) hx hb hts iX6 hown hw rfl 0 (by decide) (hts _ tw_183) (fun _ h9 => h9) dX6_add_13 f_a0_X6_0 ?_
    refine lv_aload_n hx hb dX6_add_16 rfl (lv_at hl 0 rfl) ?_
    refine t_getk (ci := 6) (C := RX6) (T := TX6) (N := 7) hx hb hts iX6 hown hw rfl 1 (by decide) (hts _ tw_184) (fun _ h9 => h9) dX6_add_17 f_a0_X6_1 ?_
    refine lv_iload_n hx hb dX6_add_20 rfl (lv_at hl 1 rfl) ?_
    refine t_iast hx hb hw k_v5 rfl rfl (by omega) (show v1.toInt < 400 by omega) (i32_lo _) (i32_hi _) dX6_add_21 (fun w_1 H locs hw u => ?_)
    have hM := hM.up3 u k_v5 (by decide)
    have f_a0_X6_1 := u.1 _ _ _ _ f_a0_X6_1
    have f_a0_X6_0 := u.1 _ _ _ _ f_a0_X6_0
    refine lv_aload_n hx hb dX6_add_22 rfl (lv_at hl 0 rfl) ?_
    refine lv_dup hx hb dX6_add_23 rfl ?_
    refine t_getk (ci := 6) (C := RX6) (T := TX6) (N := 7) hx hb hts iX6 hown hw rfl 1 (by decide) (hts _ tw_184) (fun _ h9 => h9) dX6_add_24 f_a0_X6_1 ?_
    refine lv_iconst (v := 1) hx hb dX6_add_27 (by decide) ?_
    refine lv_iadd hx hb dX6_add_28 ?_
    refine lv_topi (fun v28 e_v28 => ?_)
    have e_v28 : v28.toInt = v1.toInt + 1 := ad_i e_v28 rfl li_1 (by omega) (by omega)
    refine t_put (ci := 6) (C := RX6) (T := TX6) (N := 7) (v := .int v28) hx hb hts iX6 tyX6 tyX6_ok nmX6 hown hw k_a0 rfl rfl rfl 1 (by decide) (hts _ tw_184) (fun _ h9 => h9) rfl (tyX6_ok 1 (by decide)) rfl rfl (okV.int rfl (by omega) (by omega)) dX6_add_29 (fun w_2 H locs hw u => ?_)
    have hM := hM.up1 u (by decide)
    have f_a0_X6_1 := u.2.2
    have f_a0_X6_0 := u.1 _ _ _ _ f_a0_X6_0 (Or.inr (Or.inr (by decide)))
    rw [hQ]
    refine W.widen (k := 0) (n := 0) (Nat.le_refl _) (Nat.le_refl _) ?_
    exact W.vret hx hb hr (fun t ht hW => ⟨⟨w_2, rfl, ⟨hw.2.2.2.2, hM⟩, by rw [ht]; exact hw.2.1, va_K.moved hW.alike hw.1, hw.2.2.1⟩, hw.2.2.2.1.F ht⟩) hw.2.2.2.1.2.2 dX6_add_32
set_option maxHeartbeats 4000000 in
set_option maxRecDepth 100000 in
theorem t_X7_countPart (l : Launch) (dC : Nat → ClassId) (dI : Nat → Nat → Nat) (tys : List (ClassId × FieldType)) (κ : tK) (B : Nat) (ws : va_W) (hT : Ty κ tys B ws) (a0 : Nat) (k_a0 : κ a0 = some 7) (a1 : Int32) (l_a1 : 0 ≤ a1.toInt) (h_a1 : a1.toInt ≤ 400) (f0 : Nat) (k_f0 : κ f0 = some 9) (f_a0_X7_0 : fld ws a0 7 0 (.ref f0)) (sz : Nat) : Met l yX7_countPart (ws_u yX7_countPart cX7_countPart 2 none) ({ frames := 1, cells := 0, slots := 0, locals := 22 }) (va_Pc [.ref a0, .int a1] (cPre (dC, dI) tys ws sz)) (va_Qv (fun (w : va_W) => Ty κ tys B w ∧ Sm [(7, 2), (9, 3)] [] κ ws w) (fun w t => cPost (dC, dI) tys w (va_A ws sz) t) (va_A ws sz)) 0 0 (va_A ws sz) := by
  refine Met.ofW (cc := cX7_countPart) (maxL := 2) (ret := none) (by decide) rfl ?_
  intro p e s m args below meth c s₁ B0 hml hv
  obtain ⟨rfl, hsz, hP, hK, hD0, hE⟩ := hv
  have hx := B0.exec
  have hb := B0.bytes
  have hr := B0.returns
  have hts0 := atoms_spec (ws := ws_u yX7_countPart cX7_countPart 2 none) B0.pre
  have hts : ∀ w ∈ gT, w.before _ s = true := fun w h => hts0 w (List.mem_cons_of_mem _ h)
  have hown : s.vm.findClass RX7 = some m.cls := findClass_of_methodNamed B0.named
  have hlocks := B0.notSynchronized
  subst hsz
  have hD := hD0.self (sz := s.heap.size)
  generalize hAe : va_A ws s.heap.size = A at hD ⊢
  have hA : ∀ q : Nat, s.heap.size ≤ q → A q := fun q h => by rw [← hAe]; exact Or.inr h
  have hw : tW (dC, dI) tys κ B A s ws s.heap [] := ⟨hK, hP, hD, va_S.rf, hT⟩
  have hM : Sm [(7, 2), (9, 3)] [] κ ws ws := Sm.rf
  clear hP hK hD hD0 hts0
  have hl := lv_entry ([.ref a0, .int a1]) (n := 2) (Nat.le_of_ble_eq_true rfl)
  rw [lg_entry_eq]
  generalize (lg_sl ([.ref a0, .int a1]) ++ List.replicate (2 - (lg_sl ([.ref a0, .int a1])).length) Slot.unset).toArray = ls at hl ⊢
  have hl : lv_has ls 2 [(0, .ref a0), (1, .int a1)] := hl
  refine t_start (fun QQ hQ => ?_)
  refine lv_aload_n hx hb dX7_countPart_0 rfl (lv_at hl 0 rfl) ?_
  refine lv_dup hx hb dX7_countPart_1 rfl ?_
  refine t_geti (ci := 7) (C := RX7) (T := TX7) (N := 3) hx hb hts iX7 hown hw k_a0 rfl rfl rfl 2 (by decide) (hts _ tw_168) (fun _ h9 => h9) dX7_countPart_2 rfl (fun v2 l_v2 h_v2 f_a0_X7_2 => ?_)
  have l_v2 : (-2147483648) ≤ v2.toInt := l_v2
  have h_v2 : v2.toInt ≤ 2147483647 := h_v2
  refine lv_iconst (v := 1) hx hb dX7_countPart_5 (by decide) ?_
  refine lv_iadd hx hb dX7_countPart_6 ?_
  refine lv_topi (fun v6 e_v6 => ?_)
  have l_v6 := i32_lo v6
  have h_v6 := i32_hi v6
  refine t_put (ci := 7) (C := RX7) (T := TX7) (N := 3) (v := .int v6) hx hb hts iX7 tyX7 tyX7_ok nmX7 hown hw k_a0 rfl rfl rfl 2 (by decide) (hts _ tw_168) (fun _ h9 => h9) rfl (tyX7_ok 2 (by decide)) rfl rfl (okV.int rfl (by omega) (by omega)) dX7_countPart_7 (fun w_1 H locs hw u => ?_)
  have hM := hM.up1 u (by decide)
  have f_a0_X7_0 := u.1 _ _ _ _ f_a0_X7_0 (Or.inr (Or.inr (by decide)))
  have f_a0_X7_2 := u.2.2
  refine lv_aload_n hx hb dX7_countPart_10 rfl (lv_at hl 0 rfl) ?_
  refine t_getk (ci := 7) (C := RX7) (T := TX7) (N := 3) hx hb hts iX7 hown hw rfl 2 (by decide) (hts _ tw_168) (fun _ h9 => h9) dX7_countPart_11 f_a0_X7_2 ?_
  refine lv_bipush (v := 60) hx hb dX7_countPart_14 (by decide) ?_
  refine lv_icmp_le (tgt := 28) hx hb dX7_countPart_16 (by decide) (fun c_16 => ?_) (fun c_16 => ?_)
  · simp only [fa_lt, fa_le, fa_eq, li_60] at c_16
    rw [hQ]
    refine W.widen (k := 0) (n := 0) (Nat.le_refl _) (Nat.le_refl _) ?_
    exact W.vret hx hb hr (fun t ht hW => ⟨⟨w_1, rfl, ⟨hw.2.2.2.2, hM⟩, by rw [ht]; exact hw.2.1, va_K.moved hW.alike hw.1, hw.2.2.1⟩, hw.2.2.2.1.F ht⟩) hw.2.2.2.1.2.2 dX7_countPart_28
  · simp only [fa_lt, fa_le, fa_eq, li_60] at c_16
    refine lv_aload_n hx hb dX7_countPart_19 rfl (lv_at hl 0 rfl) ?_
    refine t_getk (ci := 7) (C := RX7) (T := TX7) (N := 3) hx hb hts iX7 hown hw rfl 0 (by decide) (hts _ tw_166) (fun _ h9 => h9) dX7_countPart_20 f_a0_X7_0 ?_
    refine lv_iload_n hx hb dX7_countPart_23 rfl (lv_at hl 1 rfl) ?_
    refine lv_iconst (v := 3) hx hb dX7_countPart_24 (by decide) ?_
    refine t_callv (va_runV (As := [.int a1, .int 3]) (rest := []) ⟨hx, hb, hml, hown, hts⟩ (t_X9_fail l dC dI tys κ B w_1 hw.2.2.2.2 f0 k_f0 a1 (by omega) (by omega) 3 (by decide) (by decide) H.size) (cwV 2 hts (gUV tw_644 tw_562 tw_563 tw_2 tw_564) rfl rfl rfl (by decide +kernel) ⟨(Nat.le_of_ble_eq_true rfl), (Nat.le_of_ble_eq_true rfl)⟩) ⟨cPre.blind, t_recv hw (ci := 9) k_f0 rfl rfl, cPre.use hw.2.1 hw.1 hw.2.2.1 hE⟩ rfl rfl hl.1 rfl (lv_room (Nat.le_of_ble_eq_true rfl)) dX7_countPart_25 ⟨(Nat.le_of_ble_eq_true rfl), (Nat.le_of_ble_eq_true rfl)⟩) hw hA (fun _ h => h.1) (fun w_2 H locs hp hw => ?_)
    obtain ⟨_, hm, ⟨v25f, l_v25f, h_v25f, f_f0_X9_3⟩⟩ := hp
    have zc_3 := li_3
    have hM := hM.trans hm (by decide) (by decide)
    have f_a0_X7_0 := hm.1 _ _ _ _ f_a0_X7_0 (by decide)
    have f_a0_X7_2 := hm.1 _ _ _ _ f_a0_X7_2 (by decide)
    rw [hQ]
    refine W.widen (k := 0) (n := 0) (Nat.le_refl _) (Nat.le_refl _) ?_
    exact W.vret hx hb hr (fun t ht hW => ⟨⟨w_2, rfl, ⟨hw.2.2.2.2, hM⟩, by rw [ht]; exact hw.2.1, va_K.moved hW.alike hw.1, hw.2.2.1⟩, hw.2.2.2.1.F ht⟩) hw.2.2.2.1.2.2 dX7_countPart_28
set_option maxHeartbeats 4000000 in
set_option maxRecDepth 100000 in
theorem t_X7_readValue (l : Launch) (dC : Nat → ClassId) (dI : Nat → Nat → Nat) (tys : List (ClassId × FieldType)) (κ : tK) (B : Nat) (ws : va_W) (hT : Ty κ tys B ws) (aK aV : Nat → Nat) (a0 : Nat) (k_a0 : κ a0 = some 7) (f0 : Nat) (k_f0 : κ f0 = some 9) (f_a0_X7_0 : fld ws a0 7 0 (.ref f0)) (f1 : Nat) (k_f1 : κ f1 = some 6) (f_a0_X7_1 : fld ws a0 7 1 (.ref f1)) (sz : Nat) : Met l yX7_readValue (ws_u yX7_readValue cX7_readValue 3 none) ({ frames := 6, cells := 0, slots := 0, locals := 135 }) (va_Pc [.ref a0] (cPreS (dC, dI) aK aV tys ws sz)) (va_Qv (fun (w : va_W) => Ty κ tys B w ∧ Sm [(6, 1), (7, 2), (9, 2), (9, 3)] [38] κ ws w) (fun w t => cPost (dC, dI) tys w (va_A ws sz) t) (va_A ws sz)) 0 0 (va_A ws sz) := by
  refine Met.ofW (cc := cX7_readValue) (maxL := 3) (ret := none) (by decide) rfl ?_
  intro p e s m args below meth c s₁ B0 hml hv
  obtain ⟨rfl, ⟨hsz, hP, hK, hD0, hE⟩, hStr, hR⟩ := hv
  have hx := B0.exec
  have hb := B0.bytes
  have hr := B0.returns
  have hts0 := atoms_spec (ws := ws_u yX7_readValue cX7_readValue 3 none) B0.pre
  have hts : ∀ w ∈ gT, w.before _ s = true := fun w h => hts0 w (List.mem_cons_of_mem _ h)
  have hown : s.vm.findClass RX7 = some m.cls := findClass_of_methodNamed B0.named
  have hlocks := B0.notSynchronized
  subst hsz
  have hD := hD0.self (sz := s.heap.size)
  generalize hAe : va_A ws s.heap.size = A at hD hStr ⊢
  have hA : ∀ q : Nat, s.heap.size ≤ q → A q := fun q h => by rw [← hAe]; exact Or.inr h
  have hw : tW (dC, dI) tys κ B A s ws s.heap [] := ⟨hK, hP, hD, va_S.rf, hT⟩
  have hM : Sm [(6, 1), (7, 2), (9, 2), (9, 3)] [38] κ ws ws := Sm.rf
  clear hP hK hD hD0 hts0
  have hl := lv_entry ([.ref a0]) (n := 3) (Nat.le_of_ble_eq_true rfl)
  rw [lg_entry_eq]
  generalize (lg_sl ([.ref a0]) ++ List.replicate (3 - (lg_sl ([.ref a0])).length) Slot.unset).toArray = ls at hl ⊢
  have hl : lv_has ls 3 [(0, .ref a0)] := hl
  refine t_start (fun QQ hQ => ?_)
  refine lv_aload_n hx hb dX7_readValue_0 rfl (lv_at hl 0 rfl) ?_
  refine t_getk (ci := 7) (C := RX7) (T := TX7) (N := 3) hx hb hts iX7 hown hw rfl 0 (by decide) (hts _ tw_166) (fun _ h9 => h9) dX7_readValue_1 f_a0_X7_0 ?_
  refine t_geti (ci := 9) (C := RX9) (T := TX9) (N := 4) hx hb hts iX9 hown hw k_f0 rfl rfl rfl 2 (by decide) (hts _ tw_39) (fun _ h9 => h9) dX7_readValue_4 rfl (fun v4 l_v4 h_v4 f_f0_X9_2 => ?_)
  have l_v4 : 0 ≤ v4.toInt := l_v4
  have h_v4 : v4.toInt ≤ 400 := h_v4
  refine lv_istore_n (lv' := [(1, .int v4), (0, .ref a0)]) hx hb dX7_readValue_7 rfl hl (by decide) rfl (fun ls hl => ?_)
  refine lv_aload_n hx hb dX7_readValue_8 rfl (lv_at hl 1 rfl) ?_
  refine t_getk (ci := 7) (C := RX7) (T := TX7) (N := 3) hx hb hts iX7 hown hw rfl 0 (by decide) (hts _ tw_166) (fun _ h9 => h9) dX7_readValue_9 f_a0_X7_0 ?_
  refine lv_iload_n hx hb dX7_readValue_12 rfl (lv_at hl 0 rfl) ?_
  refine t_calli (va_runV (As := [.int v4]) (rest := []) ⟨hx, hb, hml, hown, hts⟩ (t_X9_isDigitAt l dC dI tys κ B ws hw.2.2.2.2 f0 k_f0 v4 (by omega) (by omega) s.heap.size) (cwV 1 hts (gUV tw_657 tw_578 tw_579 tw_2 tw_580) rfl rfl rfl (by decide +kernel) ⟨(Nat.le_of_ble_eq_true rfl), (Nat.le_of_ble_eq_true rfl)⟩) ⟨cPre.blind, t_recv hw (ci := 9) k_f0 rfl rfl, cPre.use hw.2.1 hw.1 hw.2.2.1 hE⟩ rfl rfl hl.1 rfl (lv_room (Nat.le_of_ble_eq_true rfl)) dX7_readValue_13 ⟨(Nat.le_of_ble_eq_true rfl), (Nat.le_of_ble_eq_true rfl)⟩) hw hA (fun _ _ h => h.2.2.1) (fun v13 w_1 H locs hp hw => ?_)
  obtain ⟨l_v13, h_v13, _, hm, x_v13_0⟩ := hp
  have hM := hM.trans hm (by decide) (by decide)
  have f_a0_X7_0 := hm.1 _ _ _ _ f_a0_X7_0 (by decide)
  have f_a0_X7_1 := hm.1 _ _ _ _ f_a0_X7_1 (by decide)
  have f_f0_X9_2 := hm.1 _ _ _ _ f_f0_X9_2 (by decide)
  have J73 : ∀ (H : Heap) (locs : List Loc) (ls : Array Slot) (w73 : va_W), tW (dC, dI) tys κ B A s w73 H locs → Sm [(6, 1), (7, 2), (9, 2), (9, 3)] [38] κ ws w73 → fld w73 a0 7 0 (.ref f0) → fld w73 a0 7 1 (.ref f1) → lv_has ls 3 [(0, .ref a0), (1, .int v4)] → W p l e (headSpec (ws_u yX7_readValue cX7_readValue 3 none) ({ frames := 6, cells := 0, slots := 0, locals := 135 })).room s m ([.ref a0] : List Value).toArray below meth c H locs 0 0 QQ (F0 m 73 ls []) := by
    intro H locs ls w73 hw hM f_a0_X7_0 f_a0_X7_1 hl
    refine lv_aload_n hx hb dX7_readValue_73 rfl (lv_at hl 0 rfl) ?_
    refine lv_iload_n hx hb dX7_readValue_74 rfl (lv_at hl 1 rfl) ?_
    refine t_callv (va_runV (As := [.int v4]) (rest := []) ⟨hx, hb, hml, hown, hts⟩ (t_X7_countPart l dC dI tys κ B w73 hw.2.2.2.2 a0 k_a0 v4 (by omega) (by omega) f0 k_f0 f_a0_X7_0 H.size) (cwV 1 hts (gUV tw_665 tw_667 ts_0_10 tw_5 tw_668) rfl rfl rfl (by decide +kernel) ⟨(Nat.le_of_ble_eq_true rfl), (Nat.le_of_ble_eq_true rfl)⟩) ⟨cPre.blind, t_recv hw (ci := 7) k_a0 rfl rfl, cPre.use hw.2.1 hw.1 hw.2.2.1 hE⟩ rfl rfl hl.1 rfl (lv_room (Nat.le_of_ble_eq_true rfl)) dX7_readValue_75 ⟨(Nat.le_of_ble_eq_true rfl), (Nat.le_of_ble_eq_true rfl)⟩) hw hA (fun _ h => h.1) (fun w_2 H locs hp hw => ?_)
    obtain ⟨_, hm⟩ := hp
    have hM := hM.trans hm (by decide) (by decide)
    have f_a0_X7_0 := hm.1 _ _ _ _ f_a0_X7_0 (by decide)
    have f_a0_X7_1 := hm.1 _ _ _ _ f_a0_X7_1 (by decide)
    rw [hQ]
    refine W.widen (k := 0) (n := 0) (Nat.le_refl _) (Nat.le_refl _) ?_
    exact W.vret hx hb hr (fun t ht hW => ⟨⟨w_2, rfl, ⟨hw.2.2.2.2, hM⟩, by rw [ht]; exact hw.2.1, va_K.moved hW.alike hw.1, hw.2.2.1⟩, hw.2.2.2.1.F ht⟩) hw.2.2.2.1.2.2 dX7_readValue_78
  refine lv_if_eq (tgt := 39) hx hb dX7_readValue_16 (by decide) (fun c_16 => ?_) (fun c_16 => ?_)
  · simp only [fa_lt, fa_le, fa_eq, li_0] at c_16
    refine lv_aload_n hx hb dX7_readValue_39 rfl (lv_at hl 1 rfl) ?_
    refine t_getk (ci := 7) (C := RX7) (T := TX7) (N := 3) hx hb hts iX7 hown hw rfl 0 (by decide) (hts _ tw_166) (fun _ h9 => h9) dX7_readValue_40 f_a0_X7_0 ?_
    refine va_ldcS hx hb hown hR.2.2.2.2.2 dX7_readValue_43 ?_
    refine t_calli (va_runV (As := [.ref (aK 5)]) (rest := []) ⟨hx, hb, hml, hown, hts⟩ (t_X9_takeWord l dC dI tys κ B w_1 hw.2.2.2.2 aK aV f0 k_f0 5 (by decide) H.size) (cwV 1 hts (gUV tw_643 tw_506 tw_507 tw_2 tw_508) rfl rfl rfl (by decide +kernel) ⟨(Nat.le_of_ble_eq_true rfl), (Nat.le_of_ble_eq_true rfl)⟩) ⟨cPreS.blind, t_recv hw (ci := 9) k_f0 rfl rfl, cPreS.use hw.2.1 hw.1 hw.2.2.1 hE hStr hR hw.2.2.2.1 (hw.free hA)⟩ rfl rfl hl.1 rfl (lv_room (Nat.le_of_ble_eq_true rfl)) dX7_readValue_45 ⟨(Nat.le_of_ble_eq_true rfl), (Nat.le_of_ble_eq_true rfl)⟩) hw hA (fun _ _ h => h.1) (fun v45 w_3 H locs hp hw => ?_)
    obtain ⟨_, hm⟩ := hp
    have l_v45 := i32_lo v45
    have h_v45 := i32_hi v45
    have hM := hM.trans hm (by decide) (by decide)
    have f_a0_X7_0 := hm.1 _ _ _ _ f_a0_X7_0 (by decide)
    have f_a0_X7_1 := hm.1 _ _ _ _ f_a0_X7_1 (by decide)
    refine lv_istore_n (lv' := [(2, .int v45), (1, .int v4), (0, .ref a0)]) hx hb dX7_readValue_48 rfl hl (by decide) rfl (fun ls hl => ?_)
    refine lv_iload_n hx hb dX7_readValue_49 rfl (lv_at hl 0 rfl) ?_
    refine lv_iconst (v := (-1)) hx hb dX7_readValue_50 (by decide) ?_
    have J63 : ∀ (H : Heap) (locs : List Loc) (ls : Array Slot) (w63 : va_W), tW (dC, dI) tys κ B A s w63 H locs → Sm [(6, 1), (7, 2), (9, 2), (9, 3)] [38] κ ws w63 → fld w63 a0 7 0 (.ref f0) → fld w63 a0 7 1 (.ref f1) → lv_has ls 3 [(0, .ref a0), (1, .int v4), (2, .int v45)] → W p l e (headSpec (ws_u yX7_readValue cX7_readValue 3 none) ({ frames := 6, cells := 0, slots := 0, locals := 135 })).room s m ([.ref a0] : List Value).toArray below meth c H locs 0 0 QQ (F0 m 63 ls []) := by
      intro H locs ls w63 hw hM f_a0_X7_0 f_a0_X7_1 hl
      refine lv_aload_n hx hb dX7_readValue_63 rfl (lv_at hl 0 rfl) ?_
      refine t_getk (ci := 7) (C := RX7) (T := TX7) (N := 3) hx hb hts iX7 hown hw rfl 1 (by decide) (hts _ tw_167) (fun _ h9 => h9) dX7_readValue_64 f_a0_X7_1 ?_
      refine lv_iconst (v := (-1)) hx hb dX7_readValue_67 (by decide) ?_
      refine lv_iload_n hx hb dX7_readValue_68 rfl (lv_at hl 2 rfl) ?_
      refine lv_isub hx hb dX7_readValue_69 ?_
      refine lv_topi (fun v69 e_v69 => ?_)
      have l_v69 := i32_lo v69
      have h_v69 := i32_hi v69
      refine t_callv (va_runV (As := [.int v69]) (rest := []) ⟨hx, hb, hml, hown, hts⟩ (t_X6_add l dC dI tys κ B w63 hw.2.2.2.2 f1 k_f1 v69 H.size) (cwV 1 hts (gUV tw_660 tw_661 tw_662 tw_6 tw_663) rfl rfl rfl (by decide +kernel) ⟨(Nat.le_of_ble_eq_true rfl), (Nat.le_of_ble_eq_true rfl)⟩) ⟨cPre.blind, t_recv hw (ci := 6) k_f1 rfl rfl, cPre.use hw.2.1 hw.1 hw.2.2.1 hE⟩ rfl rfl hl.1 rfl (lv_room (Nat.le_of_ble_eq_true rfl)) dX7_readValue_70 ⟨(Nat.le_of_ble_eq_true rfl), (Nat.le_of_ble_eq_true rfl)⟩) hw hA (fun _ h => h.1) (fun w_4 H locs hp hw => ?_)
      obtain ⟨_, hm⟩ := hp
      have hM := hM.trans hm (by decide) (by decide)
      have f_a0_X7_0 := hm.1 _ _ _ _ f_a0_X7_0 (by decide)
      have f_a0_X7_1 := hm.1 _ _ _ _ f_a0_X7_1 (by decide)
      exact J73 _ _ _ w_4 hw hM f_a0_X7_0 f_a0_X7_1 (lv_sub hl [0, 1] rfl)
    refine lv_icmp_ne (tgt := 63) hx hb dX7_readValue_51 (by decide) (fun c_51 => ?_) (fun c_51 => ?_)
    · simp only [fa_lt, fa_le, fa_eq, li_m1] at c_51
      exact J63 _ _ _ w_3 hw hM f_a0_X7_0 f_a0_X7_1 (lv_sub hl [2, 1, 0] rfl)
    · simp only [fa_lt, fa_le, fa_eq, li_m1] at c_51
      refine lv_aload_n hx hb dX7_readValue_54 rfl (lv_at hl 2 rfl) ?_
      refine t_getk (ci := 7) (C := RX7) (T := TX7) (N := 3) hx hb hts iX7 hown hw rfl 0 (by decide) (hts _ tw_166) (fun _ h9 => h9) dX7_readValue_55 f_a0_X7_0 ?_
      refine lv_iload_n hx hb dX7_readValue_58 rfl (lv_at hl 1 rfl) ?_
      refine lv_iconst (v := 0) hx hb dX7_readValue_59 (by decide) ?_
      refine t_callv (va_runV (As := [.int v4, .int 0]) (rest := []) ⟨hx, hb, hml, hown, hts⟩ (t_X9_fail l dC dI tys κ B w_3 hw.2.2.2.2 f0 k_f0 v4 (by omega) (by omega) 0 (by decide) (by decide) H.size) (cwV 2 hts (gUV tw_644 tw_562 tw_563 tw_2 tw_564) rfl rfl rfl (by decide +kernel) ⟨(Nat.le_of_ble_eq_true rfl), (Nat.le_of_ble_eq_true rfl)⟩) ⟨cPre.blind, t_recv hw (ci := 9) k_f0 rfl rfl, cPre.use hw.2.1 hw.1 hw.2.2.1 hE⟩ rfl rfl hl.1 rfl (lv_room (Nat.le_of_ble_eq_true rfl)) dX7_readValue_60 ⟨(Nat.le_of_ble_eq_true rfl), (Nat.le_of_ble_eq_true rfl)⟩) hw hA (fun _ h => h.1) (fun w_5 H locs hp hw => ?_)
      obtain ⟨_, hm, ⟨v60f, l_v60f, h_v60f, f_f0_X9_3⟩⟩ := hp
      have zc_0 := li_0
      have hM := hM.trans hm (by decide) (by decide)
      have f_a0_X7_0 := hm.1 _ _ _ _ f_a0_X7_0 (by decide)
      have f_a0_X7_1 := hm.1 _ _ _ _ f_a0_X7_1 (by decide)
      exact J63 _ _ _ w_5 hw hM f_a0_X7_0 f_a0_X7_1 (lv_sub hl [2, 1, 0] rfl)
  · simp only [fa_lt, fa_le, fa_eq, li_0] at c_16
    refine lv_aload_n hx hb dX7_readValue_19 rfl (lv_at hl 1 rfl) ?_
    refine t_getk (ci := 7) (C := RX7) (T := TX7) (N := 3) hx hb hts iX7 hown hw rfl 1 (by decide) (hts _ tw_167) (fun _ h9 => h9) dX7_readValue_20 f_a0_X7_1 ?_
    refine lv_aload_n hx hb dX7_readValue_23 rfl (lv_at hl 1 rfl) ?_
    refine t_getk (ci := 7) (C := RX7) (T := TX7) (N := 3) hx hb hts iX7 hown hw rfl 0 (by decide) (hts _ tw_166) (fun _ h9 => h9) dX7_readValue_24 f_a0_X7_0 ?_
    refine lv_iconst (v := 0) hx hb dX7_readValue_27 (by decide) ?_
    refine lv_ldc (v := 99999) hx hb hown (hts _ tw_658) dX7_readValue_28 ?_
    refine t_calli (va_runV (As := [.int 0, .int 99999]) (rest := [.ref f1]) ⟨hx, hb, hml, hown, hts⟩ (t_X9_takeNumber l dC dI tys κ B w_1 hw.2.2.2.2 f0 k_f0 0 (by decide) (by decide) 99999 (by decide) (by decide) H.size) (cwV 2 hts (gUV tw_659 tw_574 tw_575 tw_2 tw_576) rfl rfl rfl (by decide +kernel) ⟨(Nat.le_of_ble_eq_true rfl), (Nat.le_of_ble_eq_true rfl)⟩) ⟨cPre.blind, t_recv hw (ci := 9) k_f0 rfl rfl, cPre.use hw.2.1 hw.1 hw.2.2.1 hE⟩ rfl rfl hl.1 rfl (lv_room (Nat.le_of_ble_eq_true rfl)) dX7_readValue_30 ⟨(Nat.le_of_ble_eq_true rfl), (Nat.le_of_ble_eq_true rfl)⟩) hw hA (fun _ _ h => h.2.2.1) (fun v30 w_6 H locs hp hw => ?_)
    obtain ⟨l_v30, h_v30, _, hm, x_v30_0⟩ := hp
    have zc_0 := li_0
    have zc_99999 := li_99999
    have hM := hM.trans hm (by decide) (by decide)
    have f_a0_X7_0 := hm.1 _ _ _ _ f_a0_X7_0 (by decide)
    have f_a0_X7_1 := hm.1 _ _ _ _ f_a0_X7_1 (by decide)
    refine t_callv (va_runV (As := [.int v30]) (rest := []) ⟨hx, hb, hml, hown, hts⟩ (t_X6_add l dC dI tys κ B w_6 hw.2.2.2.2 f1 k_f1 v30 H.size) (cwV 1 hts (gUV tw_660 tw_661 tw_662 tw_6 tw_663) rfl rfl rfl (by decide +kernel) ⟨(Nat.le_of_ble_eq_true rfl), (Nat.le_of_ble_eq_true rfl)⟩) ⟨cPre.blind, t_recv hw (ci := 6) k_f1 rfl rfl, cPre.use hw.2.1 hw.1 hw.2.2.1 hE⟩ rfl rfl hl.1 rfl (lv_room (Nat.le_of_ble_eq_true rfl)) dX7_readValue_33 ⟨(Nat.le_of_ble_eq_true rfl), (Nat.le_of_ble_eq_true rfl)⟩) hw hA (fun _ h => h.1) (fun w_7 H locs hp hw => ?_)
    obtain ⟨_, hm⟩ := hp
    have hM := hM.trans hm (by decide) (by decide)
    have f_a0_X7_0 := hm.1 _ _ _ _ f_a0_X7_0 (by decide)
    have f_a0_X7_1 := hm.1 _ _ _ _ f_a0_X7_1 (by decide)
    refine lv_goto (tgt := 73) hx hb dX7_readValue_36 (by decide) ?_
    exact J73 _ _ _ w_7 hw hM f_a0_X7_0 f_a0_X7_1 (lv_sub hl [1, 0] rfl)
