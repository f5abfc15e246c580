theorem ts_0_2 : Cond.selects "BoyBishop$Tape" ⟨"BoyBishop$Tape", "isWord", "(Ljava/lang/String;II)Z"⟩ ⟨"BoyBishop$Tape", "isWord", "(Ljava/lang/String;II)Z"⟩ ∈ gT := gT_in (List.mem_append_left _ (List.mem_map.mpr ⟨(⟨"BoyBishop$Tape", "isWord", "(Ljava/lang/String;II)Z"⟩, 4), (List.mem_append_left _ (List.mem_of_getElem? (i := 2) rfl)), rfl⟩)) rfl
theorem ts_0_3 : Cond.selects "BoyBishop$ChoirReader" ⟨"BoyBishop$ChoirReader", "isFull", "(I)Z"⟩ ⟨"BoyBishop$ChoirReader", "isFull", "(I)Z"⟩ ∈ gT := gT_in (List.mem_append_left _ (List.mem_map.mpr ⟨(⟨"BoyBishop$ChoirReader", "isFull", "(I)Z"⟩, 1), (List.mem_append_left _ (List.mem_of_getElem? (i := 3) rfl)), rfl⟩)) rfl
theorem ts_0_4 : Cond.selects "BoyBishop$ChoirReader" ⟨"BoyBishop$ChoirReader", "readNumbers", "(LBoyBishop$Tape;I)V"⟩ ⟨"BoyBishop$ChoirReader", "readNumbers", "(LBoyBishop$Tape;I)V"⟩ ∈ gT := gT_in (List.mem_append_left _ (List.mem_map.mpr ⟨(⟨"BoyBishop$ChoirReader", "readNumbers", "(LBoyBishop$Tape;I)V"⟩, 1), (List.mem_append_left _ (List.mem_of_getElem? (i := 4) rfl)), rfl⟩)) rfl
theorem ts_0_7 : Cond.selects "BoyBishop$Tape" ⟨"BoyBishop$Tape", "stands", "(IC)Z"⟩ ⟨"BoyBishop$Tape", "stands", "(IC)Z"⟩ ∈ gT := gT_in (List.mem_append_left _ (List.mem_map.mpr ⟨(⟨"BoyBishop$Tape", "stands", "(IC)Z"⟩, 4), (List.mem_append_left _ (List.mem_of_getElem? (i := 7) rfl)), rfl⟩)) rfl
theorem tw_106 : (Jvm.Cond.fieldLink "BoyBishop$Standing" (69 : Nat) "BoyBishop$Choir" "age" "[I") ∈ gT := gT_in (List.mem_append_right _ (List.mem_append_left _ (List.mem_of_getElem? (i := 106) rfl))) rfl
theorem tw_1103 : (Jvm.Cond.methodLink "BoyBishop" (367 : Nat) ({ cls := "BoyBishop$Choir", name := "snowsOn", desc := "(I)Z" } : Jvm.MethodName)) ∈ gT := gT_in (List.mem_append_right _ (List.mem_append_right _ (List.mem_append_right _ (List.mem_append_right _ (List.mem_append_right _ (List.mem_append_left _ (List.mem_of_getElem? (i := 143) rfl))))))) rfl
theorem tw_1104 : (Jvm.Cond.methodLink "BoyBishop" (370 : Nat) ({ cls := "BoyBishop$Standing", name := "brokenVoices", desc := "(I)I" } : Jvm.MethodName)) ∈ gT := gT_in (List.mem_append_right _ (List.mem_append_right _ (List.mem_append_right _ (List.mem_append_right _ (List.mem_append_right _ (List.mem_append_left _ (List.mem_of_getElem? (i := 144) rfl))))))) rfl
theorem tw_228 : (Jvm.Cond.fieldLink "BoyBishop" (358 : Nat) "BoyBishop$Standing" "firstDay" "I") ∈ gT := gT_in (List.mem_append_right _ (List.mem_append_left _ (List.mem_of_getElem? (i := 228) rfl))) rfl
theorem tw_233 : (Jvm.Cond.fieldLink "BoyBishop" (361 : Nat) "BoyBishop$Standing" "chest" "I") ∈ gT := gT_in (List.mem_append_right _ (List.mem_append_left _ (List.mem_of_getElem? (i := 233) rfl))) rfl
theorem tw_235 : (Jvm.Cond.fieldLink "BoyBishop" (364 : Nat) "BoyBishop$Standing" "wentToBoys" "I") ∈ gT := gT_in (List.mem_append_right _ (List.mem_append_left _ (List.mem_of_getElem? (i := 235) rfl))) rfl
theorem tw_505 : (Jvm.Cond.methodLink "BoyBishop$ChoirReader" (58 : Nat) ({ cls := "BoyBishop$Tape", name := "takeWord", desc := "(Ljava/lang/String;)I" } : Jvm.MethodName)) ∈ gT := gT_in (List.mem_append_right _ (List.mem_append_right _ (List.mem_append_right _ (List.mem_append_left _ (List.mem_of_getElem? (i := 25) rfl))))) rfl
theorem tw_506 : (Jvm.Cond.instanceMethod ({ cls := "BoyBishop$Tape", name := "takeWord", desc := "(Ljava/lang/String;)I" } : Jvm.MethodName)) ∈ gT := gT_in (List.mem_append_right _ (List.mem_append_right _ (List.mem_append_right _ (List.mem_append_left _ (List.mem_of_getElem? (i := 26) rfl))))) rfl
theorem tw_507 : (Jvm.Cond.selects "BoyBishop$Tape" ({ cls := "BoyBishop$Tape", name := "takeWord", desc := "(Ljava/lang/String;)I" } : Jvm.MethodName) ({ cls := "BoyBishop$Tape", name := "takeWord", desc := "(Ljava/lang/String;)I" } : Jvm.MethodName)) ∈ gT := gT_in (List.mem_append_right _ (List.mem_append_right _ (List.mem_append_right _ (List.mem_append_left _ (List.mem_of_getElem? (i := 27) rfl))))) rfl
theorem tw_508 : (Jvm.Cond.code ({ cls := "BoyBishop$Tape", name := "takeWord", desc := "(Ljava/lang/String;)I" } : Jvm.MethodName) prog_11_method_12_code (6 : Nat) (Option.some Jvm.ClassFile.FieldType.int)) ∈ gT := gT_in (List.mem_append_right _ (List.mem_append_right _ (List.mem_append_right _ (List.mem_append_left _ (List.mem_of_getElem? (i := 28) rfl))))) rfl
theorem tw_509 : (Jvm.Cond.methodLink "BoyBishop$Tape" (33 : Nat) ({ cls := "java/lang/String", name := "length", desc := "()I" } : Jvm.MethodName)) ∈ gT := gT_in (List.mem_append_right _ (List.mem_append_right _ (List.mem_append_right _ (List.mem_append_left _ (List.mem_of_getElem? (i := 29) rfl))))) rfl
theorem tw_510 : (Jvm.Cond.instanceMethod ({ cls := "java/lang/String", name := "length", desc := "()I" } : Jvm.MethodName)) ∈ gT := gT_in (List.mem_append_right _ (List.mem_append_right _ (List.mem_append_right _ (List.mem_append_left _ (List.mem_of_getElem? (i := 30) rfl))))) rfl
theorem tw_511 : (Jvm.Cond.selects "java/lang/String" ({ cls := "java/lang/String", name := "length", desc := "()I" } : Jvm.MethodName) ({ cls := "java/lang/String", name := "length", desc := "()I" } : Jvm.MethodName)) ∈ gT := gT_in (List.mem_append_right _ (List.mem_append_right _ (List.mem_append_right _ (List.mem_append_left _ (List.mem_of_getElem? (i := 31) rfl))))) rfl
theorem tw_512 : (Jvm.Cond.code ({ cls := "java/lang/String", name := "length", desc := "()I" } : Jvm.MethodName) prog_17_method_54_code (1 : Nat) (Option.some Jvm.ClassFile.FieldType.int)) ∈ gT := gT_in (List.mem_append_right _ (List.mem_append_right _ (List.mem_append_right _ (List.mem_append_left _ (List.mem_of_getElem? (i := 32) rfl))))) rfl
theorem tw_519 : (Jvm.Cond.methodLink "BoyBishop$Tape" (38 : Nat) ({ cls := "java/lang/String", name := "charAt", desc := "(I)C" } : Jvm.MethodName)) ∈ gT := gT_in (List.mem_append_right _ (List.mem_append_right _ (List.mem_append_right _ (List.mem_append_left _ (List.mem_of_getElem? (i := 39) rfl))))) rfl
theorem tw_520 : (Jvm.Cond.instanceMethod ({ cls := "java/lang/String", name := "charAt", desc := "(I)C" } : Jvm.MethodName)) ∈ gT := gT_in (List.mem_append_right _ (List.mem_append_right _ (List.mem_append_right _ (List.mem_append_left _ (List.mem_of_getElem? (i := 40) rfl))))) rfl
theorem tw_521 : (Jvm.Cond.selects "java/lang/String" ({ cls := "java/lang/String", name := "charAt", desc := "(I)C" } : Jvm.MethodName) ({ cls := "java/lang/String", name := "charAt", desc := "(I)C" } : Jvm.MethodName)) ∈ gT := gT_in (List.mem_append_right _ (List.mem_append_right _ (List.mem_append_right _ (List.mem_append_left _ (List.mem_of_getElem? (i := 41) rfl))))) rfl
theorem tw_522 : (Jvm.Cond.code ({ cls := "java/lang/String", name := "charAt", desc := "(I)C" } : Jvm.MethodName) prog_17_method_56_code (2 : Nat) (Option.some Jvm.ClassFile.FieldType.char)) ∈ gT := gT_in (List.mem_append_right _ (List.mem_append_right _ (List.mem_append_right _ (List.mem_append_left _ (List.mem_of_getElem? (i := 42) rfl))))) rfl
theorem tw_557 : (Jvm.Cond.methodLink "BoyBishop$Tape" (42 : Nat) ({ cls := "BoyBishop$Tape", name := "isWord", desc := "(Ljava/lang/String;II)Z" } : Jvm.MethodName)) ∈ gT := gT_in (List.mem_append_right _ (List.mem_append_right _ (List.mem_append_right _ (List.mem_append_left _ (List.mem_of_getElem? (i := 77) rfl))))) rfl
theorem tw_559 : (Jvm.Cond.instanceMethod ({ cls := "BoyBishop$Tape", name := "isWord", desc := "(Ljava/lang/String;II)Z" } : Jvm.MethodName)) ∈ gT := gT_in (List.mem_append_right _ (List.mem_append_right _ (List.mem_append_right _ (List.mem_append_left _ (List.mem_of_getElem? (i := 79) rfl))))) rfl
theorem tw_560 : (Jvm.Cond.code ({ cls := "BoyBishop$Tape", name := "isWord", desc := "(Ljava/lang/String;II)Z" } : Jvm.MethodName) prog_11_method_13_code (6 : Nat) (Option.some Jvm.ClassFile.FieldType.boolean)) ∈ gT := gT_in (List.mem_append_right _ (List.mem_append_right _ (List.mem_append_right _ (List.mem_append_left _ (List.mem_of_getElem? (i := 80) rfl))))) rfl
theorem tw_565 : (Jvm.Cond.methodLink "BoyBishop$ChoirReader" (62 : Nat) ({ cls := "BoyBishop$ChoirReader", name := "isFull", desc := "(I)Z" } : Jvm.MethodName)) ∈ gT := gT_in (List.mem_append_right _ (List.mem_append_right _ (List.mem_append_right _ (List.mem_append_left _ (List.mem_of_getElem? (i := 85) rfl))))) rfl
theorem tw_567 : (Jvm.Cond.instanceMethod ({ cls := "BoyBishop$ChoirReader", name := "isFull", desc := "(I)Z" } : Jvm.MethodName)) ∈ gT := gT_in (List.mem_append_right _ (List.mem_append_right _ (List.mem_append_right _ (List.mem_append_left _ (List.mem_of_getElem? (i := 87) rfl))))) rfl
theorem tw_568 : (Jvm.Cond.code ({ cls := "BoyBishop$ChoirReader", name := "isFull", desc := "(I)Z" } : Jvm.MethodName) prog_3_method_4_code (2 : Nat) (Option.some Jvm.ClassFile.FieldType.boolean)) ∈ gT := gT_in (List.mem_append_right _ (List.mem_append_right _ (List.mem_append_right _ (List.mem_append_left _ (List.mem_of_getElem? (i := 88) rfl))))) rfl
theorem tw_569 : (Jvm.Cond.methodLink "BoyBishop$ChoirReader" (66 : Nat) ({ cls := "BoyBishop$ChoirReader", name := "readNumbers", desc := "(LBoyBishop$Tape;I)V" } : Jvm.MethodName)) ∈ gT := gT_in (List.mem_append_right _ (List.mem_append_right _ (List.mem_append_right _ (List.mem_append_left _ (List.mem_of_getElem? (i := 89) rfl))))) rfl
theorem tw_571 : (Jvm.Cond.instanceMethod ({ cls := "BoyBishop$ChoirReader", name := "readNumbers", desc := "(LBoyBishop$Tape;I)V" } : Jvm.MethodName)) ∈ gT := gT_in (List.mem_append_right _ (List.mem_append_right _ (List.mem_append_right _ (List.mem_append_left _ (List.mem_of_getElem? (i := 91) rfl))))) rfl
theorem tw_572 : (Jvm.Cond.code ({ cls := "BoyBishop$ChoirReader", name := "readNumbers", desc := "(LBoyBishop$Tape;I)V" } : Jvm.MethodName) prog_3_method_5_code (3 : Nat) (Option.none : Option Jvm.ClassFile.FieldType)) ∈ gT := gT_in (List.mem_append_right _ (List.mem_append_right _ (List.mem_append_right _ (List.mem_append_left _ (List.mem_of_getElem? (i := 92) rfl))))) rfl
theorem tw_606 : (Jvm.Cond.methodLink "BoyBishop$Tape" (29 : Nat) ({ cls := "BoyBishop$Tape", name := "stands", desc := "(IC)Z" } : Jvm.MethodName)) ∈ gT := gT_in (List.mem_append_right _ (List.mem_append_right _ (List.mem_append_right _ (List.mem_append_left _ (List.mem_of_getElem? (i := 126) rfl))))) rfl
theorem tw_608 : (Jvm.Cond.instanceMethod ({ cls := "BoyBishop$Tape", name := "stands", desc := "(IC)Z" } : Jvm.MethodName)) ∈ gT := gT_in (List.mem_append_right _ (List.mem_append_right _ (List.mem_append_right _ (List.mem_append_left _ (List.mem_of_getElem? (i := 128) rfl))))) rfl
theorem tw_609 : (Jvm.Cond.code ({ cls := "BoyBishop$Tape", name := "stands", desc := "(IC)Z" } : Jvm.MethodName) prog_11_method_8_code (3 : Nat) (Option.some Jvm.ClassFile.FieldType.boolean)) ∈ gT := gT_in (List.mem_append_right _ (List.mem_append_right _ (List.mem_append_right _ (List.mem_append_left _ (List.mem_of_getElem? (i := 129) rfl))))) rfl
theorem tw_624 : (Jvm.Cond.methodLink "BoyBishop$Standing" (63 : Nat) ({ cls := "java/util/Arrays", name := "fill", desc := "([II)V" } : Jvm.MethodName)) ∈ gT := gT_in (List.mem_append_right _ (List.mem_append_right _ (List.mem_append_right _ (List.mem_append_left _ (List.mem_of_getElem? (i := 144) rfl))))) rfl
theorem tw_91 : (Jvm.Cond.fieldLink "BoyBishop$Standing" (53 : Nat) "BoyBishop$Choir" "voice" "[I") ∈ gT := gT_in (List.mem_append_right _ (List.mem_append_left _ (List.mem_of_getElem? (i := 91) rfl))) rfl
theorem tw_94 : (Jvm.Cond.fieldLink "BoyBishop$Standing" (62 : Nat) "BoyBishop$Choir" "share" "[I") ∈ gT := gT_in (List.mem_append_right _ (List.mem_append_left _ (List.mem_of_getElem? (i := 94) rfl))) rfl
theorem dX11_countOfStanding_0 : decode cX11_countOfStanding 0 = .ok (.aload_n 0, 1) := by decide +kernel
theorem dX11_countOfStanding_1 : decode cX11_countOfStanding 1 = .ok (.getfield 45, 3) := by decide +kernel
theorem dX11_countOfStanding_4 : decode cX11_countOfStanding 4 = .ok (.getfield 115, 3) := by decide +kernel
theorem dX11_countOfStanding_7 : decode cX11_countOfStanding 7 = .ok (.astore_n 2, 1) := by decide +kernel
theorem dX11_countOfStanding_8 : decode cX11_countOfStanding 8 = .ok (.iload_n 1, 1) := by decide +kernel
theorem dX11_countOfStanding_9 : decode cX11_countOfStanding 9 = .ok (.tableswitch 132 7 15 #[51, 56, 61, 66, 71, 76, 89, 112, 117], 51) := by decide +kernel
theorem dX11_countOfStanding_60 : decode cX11_countOfStanding 60 = .ok (.aload_n 2, 1) := by decide +kernel
theorem dX11_countOfStanding_61 : decode cX11_countOfStanding 61 = .ok (.getfield 198, 3) := by decide +kernel
theorem dX11_countOfStanding_64 : decode cX11_countOfStanding 64 = .ok (.ireturn, 1) := by decide +kernel
theorem dX11_countOfStanding_65 : decode cX11_countOfStanding 65 = .ok (.aload_n 2, 1) := by decide +kernel
theorem dX11_countOfStanding_66 : decode cX11_countOfStanding 66 = .ok (.getfield 213, 3) := by decide +kernel
theorem dX11_countOfStanding_69 : decode cX11_countOfStanding 69 = .ok (.ireturn, 1) := by decide +kernel
theorem dX11_countOfStanding_70 : decode cX11_countOfStanding 70 = .ok (.aload_n 2, 1) := by decide +kernel
theorem dX11_countOfStanding_71 : decode cX11_countOfStanding 71 = .ok (.getfield 358, 3) := by decide +kernel
theorem dX11_countOfStanding_74 : decode cX11_countOfStanding 74 = .ok (.ireturn, 1) := by decide +kernel
theorem dX11_countOfStanding_75 : decode cX11_countOfStanding 75 = .ok (.aload_n 2, 1) := by decide +kernel
theorem dX11_countOfStanding_76 : decode cX11_countOfStanding 76 = .ok (.getfield 361, 3) := by decide +kernel
theorem dX11_countOfStanding_79 : decode cX11_countOfStanding 79 = .ok (.ireturn, 1) := by decide +kernel
theorem dX11_countOfStanding_80 : decode cX11_countOfStanding 80 = .ok (.aload_n 2, 1) := by decide +kernel
theorem dX11_countOfStanding_81 : decode cX11_countOfStanding 81 = .ok (.getfield 364, 3) := by decide +kernel
theorem dX11_countOfStanding_84 : decode cX11_countOfStanding 84 = .ok (.ireturn, 1) := by decide +kernel
theorem dX11_countOfStanding_85 : decode cX11_countOfStanding 85 = .ok (.aload_n 2, 1) := by decide +kernel
theorem dX11_countOfStanding_86 : decode cX11_countOfStanding 86 = .ok (.getfield 222, 3) := by decide +kernel
theorem dX11_countOfStanding_89 : decode cX11_countOfStanding 89 = .ok (.ifCond .eq 7, 3) := by decide +kernel
theorem dX11_countOfStanding_92 : decode cX11_countOfStanding 92 = .ok (.iconst 1, 1) := by decide +kernel
theorem dX11_countOfStanding_93 : decode cX11_countOfStanding 93 = .ok (.goto 4, 3) := by decide +kernel
theorem dX11_countOfStanding_96 : decode cX11_countOfStanding 96 = .ok (.iconst 0, 1) := by decide +kernel
theorem dX11_countOfStanding_97 : decode cX11_countOfStanding 97 = .ok (.ireturn, 1) := by decide +kernel
theorem dX11_countOfStanding_98 : decode cX11_countOfStanding 98 = .ok (.aload_n 0, 1) := by decide +kernel
theorem dX11_countOfStanding_99 : decode cX11_countOfStanding 99 = .ok (.getfield 45, 3) := by decide +kernel
theorem dX11_countOfStanding_102 : decode cX11_countOfStanding 102 = .ok (.getfield 53, 3) := by decide +kernel
theorem dX11_countOfStanding_105 : decode cX11_countOfStanding 105 = .ok (.aload_n 2, 1) := by decide +kernel
theorem dX11_countOfStanding_106 : decode cX11_countOfStanding 106 = .ok (.getfield 198, 3) := by decide +kernel
theorem dX11_countOfStanding_109 : decode cX11_countOfStanding 109 = .ok (.invokevirtual 367, 3) := by decide +kernel
theorem dX11_countOfStanding_112 : decode cX11_countOfStanding 112 = .ok (.ifCond .eq 7, 3) := by decide +kernel
theorem dX11_countOfStanding_115 : decode cX11_countOfStanding 115 = .ok (.iconst 1, 1) := by decide +kernel
theorem dX11_countOfStanding_116 : decode cX11_countOfStanding 116 = .ok (.goto 4, 3) := by decide +kernel
theorem dX11_countOfStanding_119 : decode cX11_countOfStanding 119 = .ok (.iconst 0, 1) := by decide +kernel
theorem dX11_countOfStanding_120 : decode cX11_countOfStanding 120 = .ok (.ireturn, 1) := by decide +kernel
theorem dX11_countOfStanding_121 : decode cX11_countOfStanding 121 = .ok (.aload_n 2, 1) := by decide +kernel
theorem dX11_countOfStanding_122 : decode cX11_countOfStanding 122 = .ok (.getfield 167, 3) := by decide +kernel
theorem dX11_countOfStanding_125 : decode cX11_countOfStanding 125 = .ok (.ireturn, 1) := by decide +kernel
theorem dX11_countOfStanding_126 : decode cX11_countOfStanding 126 = .ok (.aload_n 2, 1) := by decide +kernel
theorem dX11_countOfStanding_127 : decode cX11_countOfStanding 127 = .ok (.aload_n 0, 1) := by decide +kernel
theorem dX11_countOfStanding_128 : decode cX11_countOfStanding 128 = .ok (.getfield 45, 3) := by decide +kernel
theorem dX11_countOfStanding_131 : decode cX11_countOfStanding 131 = .ok (.getfield 53, 3) := by decide +kernel
theorem dX11_countOfStanding_134 : decode cX11_countOfStanding 134 = .ok (.getfield 127, 3) := by decide +kernel
theorem dX11_countOfStanding_137 : decode cX11_countOfStanding 137 = .ok (.invokevirtual 370, 3) := by decide +kernel
theorem dX11_countOfStanding_140 : decode cX11_countOfStanding 140 = .ok (.ireturn, 1) := by decide +kernel
theorem dX11_countOfStanding_141 : decode cX11_countOfStanding 141 = .ok (.iconst (-1), 1) := by decide +kernel
theorem dX11_countOfStanding_142 : decode cX11_countOfStanding 142 = .ok (.ireturn, 1) := by decide +kernel
theorem dX1_readClause_0 : decode cX1_readClause 0 = .ok (.aload_n 1, 1) := by decide +kernel
theorem dX1_readClause_1 : decode cX1_readClause 1 = .ok (.getfield 42, 3) := by decide +kernel
theorem dX1_readClause_4 : decode cX1_readClause 4 = .ok (.istore_n 3, 1) := by decide +kernel
theorem dX1_readClause_5 : decode cX1_readClause 5 = .ok (.aload_n 1, 1) := by decide +kernel
theorem dX1_readClause_6 : decode cX1_readClause 6 = .ok (.ldc 56, 2) := by decide +kernel
theorem dX1_readClause_8 : decode cX1_readClause 8 = .ok (.invokevirtual 58, 3) := by decide +kernel
theorem dX1_readClause_11 : decode cX1_readClause 11 = .ok (.istore 4, 2) := by decide +kernel
theorem dX1_readClause_13 : decode cX1_readClause 13 = .ok (.iload 4, 2) := by decide +kernel
theorem dX1_readClause_15 : decode cX1_readClause 15 = .ok (.iconst (-1), 1) := by decide +kernel
theorem dX1_readClause_16 : decode cX1_readClause 16 = .ok (.if_icmp .ne 12, 3) := by decide +kernel
theorem dX1_readClause_19 : decode cX1_readClause 19 = .ok (.aload_n 1, 1) := by decide +kernel
theorem dX1_readClause_20 : decode cX1_readClause 20 = .ok (.iload_n 3, 1) := by decide +kernel
theorem dX1_readClause_21 : decode cX1_readClause 21 = .ok (.iconst 0, 1) := by decide +kernel
theorem dX1_readClause_22 : decode cX1_readClause 22 = .ok (.invokevirtual 45, 3) := by decide +kernel
theorem dX1_readClause_25 : decode cX1_readClause 25 = .ok (.goto 56, 3) := by decide +kernel
theorem dX1_readClause_28 : decode cX1_readClause 28 = .ok (.iload_n 2, 1) := by decide +kernel
theorem dX1_readClause_29 : decode cX1_readClause 29 = .ok (.bipush 40, 2) := by decide +kernel
theorem dX1_readClause_31 : decode cX1_readClause 31 = .ok (.if_icmp .ge 34, 3) := by decide +kernel
theorem dX1_readClause_34 : decode cX1_readClause 34 = .ok (.iload 4, 2) := by decide +kernel
theorem dX1_readClause_36 : decode cX1_readClause 36 = .ok (.ifCond .ne 7, 3) := by decide +kernel
theorem dX1_readClause_39 : decode cX1_readClause 39 = .ok (.iconst 1, 1) := by decide +kernel
theorem dX1_readClause_40 : decode cX1_readClause 40 = .ok (.goto 4, 3) := by decide +kernel
theorem dX1_readClause_43 : decode cX1_readClause 43 = .ok (.iconst 0, 1) := by decide +kernel
theorem dX1_readClause_44 : decode cX1_readClause 44 = .ok (.iload_n 2, 1) := by decide +kernel
theorem dX1_readClause_45 : decode cX1_readClause 45 = .ok (.ifCond .ne 7, 3) := by decide +kernel
theorem dX1_readClause_48 : decode cX1_readClause 48 = .ok (.iconst 1, 1) := by decide +kernel
theorem dX1_readClause_49 : decode cX1_readClause 49 = .ok (.goto 4, 3) := by decide +kernel
theorem dX1_readClause_52 : decode cX1_readClause 52 = .ok (.iconst 0, 1) := by decide +kernel
theorem dX1_readClause_53 : decode cX1_readClause 53 = .ok (.if_icmp .ne 12, 3) := by decide +kernel
theorem dX1_readClause_56 : decode cX1_readClause 56 = .ok (.aload_n 0, 1) := by decide +kernel
theorem dX1_readClause_57 : decode cX1_readClause 57 = .ok (.iload 4, 2) := by decide +kernel
theorem dX1_readClause_59 : decode cX1_readClause 59 = .ok (.invokevirtual 62, 3) := by decide +kernel
theorem dX1_readClause_62 : decode cX1_readClause 62 = .ok (.ifCond .eq 12, 3) := by decide +kernel
theorem dX1_readClause_65 : decode cX1_readClause 65 = .ok (.aload_n 1, 1) := by decide +kernel
theorem dX1_readClause_66 : decode cX1_readClause 66 = .ok (.iload_n 3, 1) := by decide +kernel
theorem dX1_readClause_67 : decode cX1_readClause 67 = .ok (.iconst 4, 1) := by decide +kernel
theorem dX1_readClause_68 : decode cX1_readClause 68 = .ok (.invokevirtual 45, 3) := by decide +kernel
theorem dX1_readClause_71 : decode cX1_readClause 71 = .ok (.goto 10, 3) := by decide +kernel
theorem dX1_readClause_74 : decode cX1_readClause 74 = .ok (.aload_n 0, 1) := by decide +kernel
theorem dX1_readClause_75 : decode cX1_readClause 75 = .ok (.aload_n 1, 1) := by decide +kernel
theorem dX1_readClause_76 : decode cX1_readClause 76 = .ok (.iload 4, 2) := by decide +kernel
theorem dX1_readClause_78 : decode cX1_readClause 78 = .ok (.invokevirtual 66, 3) := by decide +kernel
theorem dX1_readClause_81 : decode cX1_readClause 81 = .ok (.return_, 1) := by decide +kernel
theorem dX8_begin_0 : decode cX8_begin 0 = .ok (.aload_n 0, 1) := by decide +kernel
theorem dX8_begin_1 : decode cX8_begin 1 = .ok (.iconst 0, 1) := by decide +kernel
theorem dX8_begin_2 : decode cX8_begin 2 = .ok (.putfield 37, 3) := by decide +kernel
theorem dX8_begin_5 : decode cX8_begin 5 = .ok (.aload_n 0, 1) := by decide +kernel
theorem dX8_begin_6 : decode cX8_begin 6 = .ok (.iconst (-1), 1) := by decide +kernel
theorem dX8_begin_7 : decode cX8_begin 7 = .ok (.putfield 9, 3) := by decide +kernel
theorem dX8_begin_10 : decode cX8_begin 10 = .ok (.aload_n 0, 1) := by decide +kernel
theorem dX8_begin_11 : decode cX8_begin 11 = .ok (.iconst (-1), 1) := by decide +kernel
theorem dX8_begin_12 : decode cX8_begin 12 = .ok (.putfield 15, 3) := by decide +kernel
theorem dX8_begin_15 : decode cX8_begin 15 = .ok (.aload_n 0, 1) := by decide +kernel
theorem dX8_begin_16 : decode cX8_begin 16 = .ok (.iconst 0, 1) := by decide +kernel
theorem dX8_begin_17 : decode cX8_begin 17 = .ok (.putfield 40, 3) := by decide +kernel
theorem dX8_begin_20 : decode cX8_begin 20 = .ok (.aload_n 0, 1) := by decide +kernel
theorem dX8_begin_21 : decode cX8_begin 21 = .ok (.iconst 0, 1) := by decide +kernel
theorem dX8_begin_22 : decode cX8_begin 22 = .ok (.putfield 44, 3) := by decide +kernel
theorem dX8_begin_25 : decode cX8_begin 25 = .ok (.aload_n 0, 1) := by decide +kernel
theorem dX8_begin_26 : decode cX8_begin 26 = .ok (.iconst 0, 1) := by decide +kernel
theorem dX8_begin_27 : decode cX8_begin 27 = .ok (.putfield 47, 3) := by decide +kernel
theorem dX8_begin_30 : decode cX8_begin 30 = .ok (.aload_n 0, 1) := by decide +kernel
theorem dX8_begin_31 : decode cX8_begin 31 = .ok (.iconst 0, 1) := by decide +kernel
theorem dX8_begin_32 : decode cX8_begin 32 = .ok (.putfield 50, 3) := by decide +kernel
theorem dX8_begin_35 : decode cX8_begin 35 = .ok (.aload_n 1, 1) := by decide +kernel
theorem dX8_begin_36 : decode cX8_begin 36 = .ok (.getfield 53, 3) := by decide +kernel
theorem dX8_begin_39 : decode cX8_begin 39 = .ok (.iconst 0, 1) := by decide +kernel
theorem dX8_begin_40 : decode cX8_begin 40 = .ok (.aload_n 0, 1) := by decide +kernel
theorem dX8_begin_41 : decode cX8_begin 41 = .ok (.getfield 18, 3) := by decide +kernel
theorem dX8_begin_44 : decode cX8_begin 44 = .ok (.iconst 0, 1) := by decide +kernel
theorem dX8_begin_45 : decode cX8_begin 45 = .ok (.bipush 6, 2) := by decide +kernel
theorem dX8_begin_47 : decode cX8_begin 47 = .ok (.invokestatic 56, 3) := by decide +kernel
theorem dX8_begin_50 : decode cX8_begin 50 = .ok (.aload_n 1, 1) := by decide +kernel
theorem dX8_begin_51 : decode cX8_begin 51 = .ok (.getfield 62, 3) := by decide +kernel
theorem dX8_begin_54 : decode cX8_begin 54 = .ok (.iconst 0, 1) := by decide +kernel
theorem dX8_begin_55 : decode cX8_begin 55 = .ok (.aload_n 0, 1) := by decide +kernel
theorem dX8_begin_56 : decode cX8_begin 56 = .ok (.getfield 22, 3) := by decide +kernel
theorem dX8_begin_59 : decode cX8_begin 59 = .ok (.iconst 0, 1) := by decide +kernel
theorem dX8_begin_60 : decode cX8_begin 60 = .ok (.bipush 6, 2) := by decide +kernel
theorem dX8_begin_62 : decode cX8_begin 62 = .ok (.invokestatic 56, 3) := by decide +kernel
theorem dX8_begin_65 : decode cX8_begin 65 = .ok (.aload_n 0, 1) := by decide +kernel
theorem dX8_begin_66 : decode cX8_begin 66 = .ok (.getfield 25, 3) := by decide +kernel
theorem dX8_begin_69 : decode cX8_begin 69 = .ok (.iconst 0, 1) := by decide +kernel
theorem dX8_begin_70 : decode cX8_begin 70 = .ok (.invokestatic 63, 3) := by decide +kernel
theorem dX8_begin_73 : decode cX8_begin 73 = .ok (.aload_n 1, 1) := by decide +kernel
theorem dX8_begin_74 : decode cX8_begin 74 = .ok (.getfield 69, 3) := by decide +kernel
theorem dX8_begin_77 : decode cX8_begin 77 = .ok (.iconst 0, 1) := by decide +kernel
theorem dX8_begin_78 : decode cX8_begin 78 = .ok (.aload_n 0, 1) := by decide +kernel
theorem dX8_begin_79 : decode cX8_begin 79 = .ok (.getfield 28, 3) := by decide +kernel
theorem dX8_begin_82 : decode cX8_begin 82 = .ok (.iconst 0, 1) := by decide +kernel
theorem dX8_begin_83 : decode cX8_begin 83 = .ok (.iconst 4, 1) := by decide +kernel
theorem dX8_begin_84 : decode cX8_begin 84 = .ok (.invokestatic 56, 3) := by decide +kernel
theorem dX8_begin_87 : decode cX8_begin 87 = .ok (.aload_n 0, 1) := by decide +kernel
theorem dX8_begin_88 : decode cX8_begin 88 = .ok (.getfield 31, 3) := by decide +kernel
theorem dX8_begin_91 : decode cX8_begin 91 = .ok (.iconst (-1), 1) := by decide +kernel
theorem dX8_begin_92 : decode cX8_begin 92 = .ok (.invokestatic 63, 3) := by decide +kernel
theorem dX8_begin_95 : decode cX8_begin 95 = .ok (.aload_n 1, 1) := by decide +kernel
theorem dX8_begin_96 : decode cX8_begin 96 = .ok (.getfield 70, 3) := by decide +kernel
theorem dX8_begin_99 : decode cX8_begin 99 = .ok (.iconst 0, 1) := by decide +kernel
theorem dX8_begin_100 : decode cX8_begin 100 = .ok (.aload_n 0, 1) := by decide +kernel
theorem dX8_begin_101 : decode cX8_begin 101 = .ok (.getfield 34, 3) := by decide +kernel
theorem dX8_begin_104 : decode cX8_begin 104 = .ok (.iconst 0, 1) := by decide +kernel
theorem dX8_begin_105 : decode cX8_begin 105 = .ok (.bipush 6, 2) := by decide +kernel
theorem dX8_begin_107 : decode cX8_begin 107 = .ok (.invokestatic 56, 3) := by decide +kernel
theorem dX8_begin_110 : decode cX8_begin 110 = .ok (.return_, 1) := by decide +kernel
theorem dX9_atEnd_0 : decode cX9_atEnd 0 = .ok (.aload_n 0, 1) := by decide +kernel
theorem dX9_atEnd_1 : decode cX9_atEnd 1 = .ok (.getfield 26, 3) := by decide +kernel
theorem dX9_atEnd_4 : decode cX9_atEnd 4 = .ok (.aload_n 0, 1) := by decide +kernel
theorem dX9_atEnd_5 : decode cX9_atEnd 5 = .ok (.getfield 15, 3) := by decide +kernel
theorem dX9_atEnd_8 : decode cX9_atEnd 8 = .ok (.if_icmp .lt 7, 3) := by decide +kernel
theorem dX9_atEnd_11 : decode cX9_atEnd 11 = .ok (.iconst 1, 1) := by decide +kernel
theorem dX9_atEnd_12 : decode cX9_atEnd 12 = .ok (.goto 4, 3) := by decide +kernel
theorem dX9_atEnd_15 : decode cX9_atEnd 15 = .ok (.iconst 0, 1) := by decide +kernel
theorem dX9_atEnd_16 : decode cX9_atEnd 16 = .ok (.ireturn, 1) := by decide +kernel
theorem dX9_isWord_0 : decode cX9_isWord 0 = .ok (.iload_n 2, 1) := by decide +kernel
theorem dX9_isWord_1 : decode cX9_isWord 1 = .ok (.istore 4, 2) := by decide +kernel
theorem dX9_isWord_3 : decode cX9_isWord 3 = .ok (.iload 4, 2) := by decide +kernel
theorem dX9_isWord_5 : decode cX9_isWord 5 = .ok (.iload_n 3, 1) := by decide +kernel
theorem dX9_isWord_6 : decode cX9_isWord 6 = .ok (.if_icmp .ge 47, 3) := by decide +kernel
theorem dX9_isWord_9 : decode cX9_isWord 9 = .ok (.aload_n 0, 1) := by decide +kernel
theorem dX9_isWord_10 : decode cX9_isWord 10 = .ok (.getfield 26, 3) := by decide +kernel
theorem dX9_isWord_13 : decode cX9_isWord 13 = .ok (.iload 4, 2) := by decide +kernel
theorem dX9_isWord_15 : decode cX9_isWord 15 = .ok (.iadd, 1) := by decide +kernel
theorem dX9_isWord_16 : decode cX9_isWord 16 = .ok (.iload_n 2, 1) := by decide +kernel
theorem dX9_isWord_17 : decode cX9_isWord 17 = .ok (.isub, 1) := by decide +kernel
theorem dX9_isWord_18 : decode cX9_isWord 18 = .ok (.istore 5, 2) := by decide +kernel
theorem dX9_isWord_20 : decode cX9_isWord 20 = .ok (.iload 5, 2) := by decide +kernel
theorem dX9_isWord_22 : decode cX9_isWord 22 = .ok (.aload_n 0, 1) := by decide +kernel
theorem dX9_isWord_23 : decode cX9_isWord 23 = .ok (.getfield 15, 3) := by decide +kernel
theorem dX9_isWord_26 : decode cX9_isWord 26 = .ok (.if_icmp .ge 19, 3) := by decide +kernel
theorem dX9_isWord_29 : decode cX9_isWord 29 = .ok (.aload_n 0, 1) := by decide +kernel
theorem dX9_isWord_30 : decode cX9_isWord 30 = .ok (.getfield 11, 3) := by decide +kernel
theorem dX9_isWord_33 : decode cX9_isWord 33 = .ok (.iload 5, 2) := by decide +kernel
theorem dX9_isWord_35 : decode cX9_isWord 35 = .ok (.baload, 1) := by decide +kernel
theorem dX9_isWord_36 : decode cX9_isWord 36 = .ok (.aload_n 1, 1) := by decide +kernel
theorem dX9_isWord_37 : decode cX9_isWord 37 = .ok (.iload 4, 2) := by decide +kernel
theorem dX9_isWord_39 : decode cX9_isWord 39 = .ok (.invokevirtual 38, 3) := by decide +kernel
theorem dX9_isWord_42 : decode cX9_isWord 42 = .ok (.if_icmp .eq 5, 3) := by decide +kernel
theorem dX9_isWord_45 : decode cX9_isWord 45 = .ok (.iconst 0, 1) := by decide +kernel
theorem dX9_isWord_46 : decode cX9_isWord 46 = .ok (.ireturn, 1) := by decide +kernel
theorem dX9_isWord_47 : decode cX9_isWord 47 = .ok (.iinc 4 1, 3) := by decide +kernel
theorem dX9_isWord_50 : decode cX9_isWord 50 = .ok (.goto (-47), 3) := by decide +kernel
theorem dX9_isWord_53 : decode cX9_isWord 53 = .ok (.iconst 1, 1) := by decide +kernel
theorem dX9_isWord_54 : decode cX9_isWord 54 = .ok (.ireturn, 1) := by decide +kernel
theorem dX9_stands_0 : decode cX9_stands 0 = .ok (.aload_n 0, 1) := by decide +kernel
theorem dX9_stands_1 : decode cX9_stands 1 = .ok (.getfield 19, 3) := by decide +kernel
theorem dX9_stands_4 : decode cX9_stands 4 = .ok (.ifCond .ne 25, 3) := by decide +kernel
theorem dX9_stands_7 : decode cX9_stands 7 = .ok (.iload_n 1, 1) := by decide +kernel
theorem dX9_stands_8 : decode cX9_stands 8 = .ok (.aload_n 0, 1) := by decide +kernel
theorem dX9_stands_9 : decode cX9_stands 9 = .ok (.getfield 15, 3) := by decide +kernel
theorem dX9_stands_12 : decode cX9_stands 12 = .ok (.if_icmp .ge 17, 3) := by decide +kernel
theorem dX9_stands_15 : decode cX9_stands 15 = .ok (.aload_n 0, 1) := by decide +kernel
theorem dX9_stands_16 : decode cX9_stands 16 = .ok (.getfield 11, 3) := by decide +kernel
theorem dX9_stands_19 : decode cX9_stands 19 = .ok (.iload_n 1, 1) := by decide +kernel
theorem dX9_stands_20 : decode cX9_stands 20 = .ok (.baload, 1) := by decide +kernel
theorem dX9_stands_21 : decode cX9_stands 21 = .ok (.iload_n 2, 1) := by decide +kernel
theorem dX9_stands_22 : decode cX9_stands 22 = .ok (.if_icmp .ne 7, 3) := by decide +kernel
theorem dX9_stands_25 : decode cX9_stands 25 = .ok (.iconst 1, 1) := by decide +kernel
theorem dX9_stands_26 : decode cX9_stands 26 = .ok (.goto 4, 3) := by decide +kernel
theorem dX9_stands_29 : decode cX9_stands 29 = .ok (.iconst 0, 1) := by decide +kernel
theorem dX9_stands_30 : decode cX9_stands 30 = .ok (.ireturn, 1) := by decide +kernel
theorem dX9_startReading_0 : decode cX9_startReading 0 = .ok (.aload_n 0, 1) := by decide +kernel
theorem dX9_startReading_1 : decode cX9_startReading 1 = .ok (.iconst 0, 1) := by decide +kernel
theorem dX9_startReading_2 : decode cX9_startReading 2 = .ok (.putfield 19, 3) := by decide +kernel
theorem dX9_startReading_5 : decode cX9_startReading 5 = .ok (.aload_n 0, 1) := by decide +kernel
theorem dX9_startReading_6 : decode cX9_startReading 6 = .ok (.iconst 0, 1) := by decide +kernel
theorem dX9_startReading_7 : decode cX9_startReading 7 = .ok (.invokevirtual 22, 3) := by decide +kernel
theorem dX9_startReading_10 : decode cX9_startReading 10 = .ok (.return_, 1) := by decide +kernel
theorem dX9_takeSign_0 : decode cX9_takeSign 0 = .ok (.aload_n 0, 1) := by decide +kernel
theorem dX9_takeSign_1 : decode cX9_takeSign 1 = .ok (.aload_n 0, 1) := by decide +kernel
theorem dX9_takeSign_2 : decode cX9_takeSign 2 = .ok (.getfield 26, 3) := by decide +kernel
theorem dX9_takeSign_5 : decode cX9_takeSign 5 = .ok (.iload_n 1, 1) := by decide +kernel
theorem dX9_takeSign_6 : decode cX9_takeSign 6 = .ok (.invokevirtual 29, 3) := by decide +kernel
theorem dX9_takeSign_9 : decode cX9_takeSign 9 = .ok (.istore_n 2, 1) := by decide +kernel
theorem dX9_takeSign_10 : decode cX9_takeSign 10 = .ok (.iload_n 2, 1) := by decide +kernel
theorem dX9_takeSign_11 : decode cX9_takeSign 11 = .ok (.ifCond .eq 13, 3) := by decide +kernel
theorem dX9_takeSign_14 : decode cX9_takeSign 14 = .ok (.aload_n 0, 1) := by decide +kernel
theorem dX9_takeSign_15 : decode cX9_takeSign 15 = .ok (.aload_n 0, 1) := by decide +kernel
theorem dX9_takeSign_16 : decode cX9_takeSign 16 = .ok (.getfield 26, 3) := by decide +kernel
theorem dX9_takeSign_19 : decode cX9_takeSign 19 = .ok (.iconst 1, 1) := by decide +kernel
theorem dX9_takeSign_20 : decode cX9_takeSign 20 = .ok (.iadd, 1) := by decide +kernel
theorem dX9_takeSign_21 : decode cX9_takeSign 21 = .ok (.invokevirtual 22, 3) := by decide +kernel
theorem dX9_takeSign_24 : decode cX9_takeSign 24 = .ok (.iload_n 2, 1) := by decide +kernel
theorem dX9_takeSign_25 : decode cX9_takeSign 25 = .ok (.ireturn, 1) := by decide +kernel
theorem dX9_takeWord_0 : decode cX9_takeWord 0 = .ok (.aload_n 0, 1) := by decide +kernel
theorem dX9_takeWord_1 : decode cX9_takeWord 1 = .ok (.getfield 26, 3) := by decide +kernel
theorem dX9_takeWord_4 : decode cX9_takeWord 4 = .ok (.istore_n 2, 1) := by decide +kernel
theorem dX9_takeWord_5 : decode cX9_takeWord 5 = .ok (.iload_n 2, 1) := by decide +kernel
theorem dX9_takeWord_6 : decode cX9_takeWord 6 = .ok (.aload_n 0, 1) := by decide +kernel
theorem dX9_takeWord_7 : decode cX9_takeWord 7 = .ok (.getfield 15, 3) := by decide +kernel
theorem dX9_takeWord_10 : decode cX9_takeWord 10 = .ok (.if_icmp .ge 31, 3) := by decide +kernel
theorem dX9_takeWord_13 : decode cX9_takeWord 13 = .ok (.aload_n 0, 1) := by decide +kernel
theorem dX9_takeWord_14 : decode cX9_takeWord 14 = .ok (.getfield 11, 3) := by decide +kernel
theorem dX9_takeWord_17 : decode cX9_takeWord 17 = .ok (.iload_n 2, 1) := by decide +kernel
theorem dX9_takeWord_18 : decode cX9_takeWord 18 = .ok (.baload, 1) := by decide +kernel
theorem dX9_takeWord_19 : decode cX9_takeWord 19 = .ok (.bipush 97, 2) := by decide +kernel
theorem dX9_takeWord_21 : decode cX9_takeWord 21 = .ok (.if_icmp .lt 20, 3) := by decide +kernel
theorem dX9_takeWord_24 : decode cX9_takeWord 24 = .ok (.aload_n 0, 1) := by decide +kernel
theorem dX9_takeWord_25 : decode cX9_takeWord 25 = .ok (.getfield 11, 3) := by decide +kernel
theorem dX9_takeWord_28 : decode cX9_takeWord 28 = .ok (.iload_n 2, 1) := by decide +kernel
theorem dX9_takeWord_29 : decode cX9_takeWord 29 = .ok (.baload, 1) := by decide +kernel
theorem dX9_takeWord_30 : decode cX9_takeWord 30 = .ok (.bipush 122, 2) := by decide +kernel
theorem dX9_takeWord_32 : decode cX9_takeWord 32 = .ok (.if_icmp .gt 9, 3) := by decide +kernel
theorem dX9_takeWord_35 : decode cX9_takeWord 35 = .ok (.iinc 2 1, 3) := by decide +kernel
theorem dX9_takeWord_38 : decode cX9_takeWord 38 = .ok (.goto (-33), 3) := by decide +kernel
theorem dX9_takeWord_41 : decode cX9_takeWord 41 = .ok (.iconst 0, 1) := by decide +kernel
theorem dX9_takeWord_42 : decode cX9_takeWord 42 = .ok (.istore_n 3, 1) := by decide +kernel
theorem dX9_takeWord_43 : decode cX9_takeWord 43 = .ok (.iconst 0, 1) := by decide +kernel
theorem dX9_takeWord_44 : decode cX9_takeWord 44 = .ok (.istore 4, 2) := by decide +kernel
theorem dX9_takeWord_46 : decode cX9_takeWord 46 = .ok (.iconst 0, 1) := by decide +kernel
theorem dX9_takeWord_47 : decode cX9_takeWord 47 = .ok (.istore 5, 2) := by decide +kernel
theorem dX9_takeWord_49 : decode cX9_takeWord 49 = .ok (.iload 5, 2) := by decide +kernel
theorem dX9_takeWord_51 : decode cX9_takeWord 51 = .ok (.aload_n 1, 1) := by decide +kernel
theorem dX9_takeWord_52 : decode cX9_takeWord 52 = .ok (.invokevirtual 33, 3) := by decide +kernel
theorem dX9_takeWord_55 : decode cX9_takeWord 55 = .ok (.if_icmp .ge 72, 3) := by decide +kernel
theorem dX9_takeWord_58 : decode cX9_takeWord 58 = .ok (.aload_n 0, 1) := by decide +kernel
theorem dX9_takeWord_59 : decode cX9_takeWord 59 = .ok (.getfield 19, 3) := by decide +kernel
theorem dX9_takeWord_62 : decode cX9_takeWord 62 = .ok (.ifCond .ne 65, 3) := by decide +kernel
theorem dX9_takeWord_65 : decode cX9_takeWord 65 = .ok (.aload_n 1, 1) := by decide +kernel
theorem dX9_takeWord_66 : decode cX9_takeWord 66 = .ok (.iload 5, 2) := by decide +kernel
theorem dX9_takeWord_68 : decode cX9_takeWord 68 = .ok (.invokevirtual 38, 3) := by decide +kernel
theorem dX9_takeWord_71 : decode cX9_takeWord 71 = .ok (.bipush 32, 2) := by decide +kernel
theorem dX9_takeWord_73 : decode cX9_takeWord 73 = .ok (.if_icmp .eq 6, 3) := by decide +kernel
theorem dX9_takeWord_76 : decode cX9_takeWord 76 = .ok (.goto 45, 3) := by decide +kernel
theorem dX9_takeWord_79 : decode cX9_takeWord 79 = .ok (.iload 5, 2) := by decide +kernel
theorem dX9_takeWord_81 : decode cX9_takeWord 81 = .ok (.iload 4, 2) := by decide +kernel
theorem dX9_takeWord_83 : decode cX9_takeWord 83 = .ok (.isub, 1) := by decide +kernel
theorem dX9_takeWord_84 : decode cX9_takeWord 84 = .ok (.iload_n 2, 1) := by decide +kernel
theorem dX9_takeWord_85 : decode cX9_takeWord 85 = .ok (.aload_n 0, 1) := by decide +kernel
theorem dX9_takeWord_86 : decode cX9_takeWord 86 = .ok (.getfield 26, 3) := by decide +kernel
theorem dX9_takeWord_89 : decode cX9_takeWord 89 = .ok (.isub, 1) := by decide +kernel
theorem dX9_takeWord_90 : decode cX9_takeWord 90 = .ok (.if_icmp .ne 22, 3) := by decide +kernel
theorem dX9_takeWord_93 : decode cX9_takeWord 93 = .ok (.aload_n 0, 1) := by decide +kernel
theorem dX9_takeWord_94 : decode cX9_takeWord 94 = .ok (.aload_n 1, 1) := by decide +kernel
theorem dX9_takeWord_95 : decode cX9_takeWord 95 = .ok (.iload 4, 2) := by decide +kernel
theorem dX9_takeWord_97 : decode cX9_takeWord 97 = .ok (.iload 5, 2) := by decide +kernel
theorem dX9_takeWord_99 : decode cX9_takeWord 99 = .ok (.invokevirtual 42, 3) := by decide +kernel
theorem dX9_takeWord_102 : decode cX9_takeWord 102 = .ok (.ifCond .eq 10, 3) := by decide +kernel
theorem dX9_takeWord_105 : decode cX9_takeWord 105 = .ok (.aload_n 0, 1) := by decide +kernel
theorem dX9_takeWord_106 : decode cX9_takeWord 106 = .ok (.iload_n 2, 1) := by decide +kernel
theorem dX9_takeWord_107 : decode cX9_takeWord 107 = .ok (.invokevirtual 22, 3) := by decide +kernel
theorem dX9_takeWord_110 : decode cX9_takeWord 110 = .ok (.iload_n 3, 1) := by decide +kernel
theorem dX9_takeWord_111 : decode cX9_takeWord 111 = .ok (.ireturn, 1) := by decide +kernel
theorem dX9_takeWord_112 : decode cX9_takeWord 112 = .ok (.iinc 3 1, 3) := by decide +kernel
theorem dX9_takeWord_115 : decode cX9_takeWord 115 = .ok (.iload 5, 2) := by decide +kernel
theorem dX9_takeWord_117 : decode cX9_takeWord 117 = .ok (.iconst 1, 1) := by decide +kernel
theorem dX9_takeWord_118 : decode cX9_takeWord 118 = .ok (.iadd, 1) := by decide +kernel
theorem dX9_takeWord_119 : decode cX9_takeWord 119 = .ok (.istore 4, 2) := by decide +kernel
theorem dX9_takeWord_121 : decode cX9_takeWord 121 = .ok (.iinc 5 1, 3) := by decide +kernel
theorem dX9_takeWord_124 : decode cX9_takeWord 124 = .ok (.goto (-75), 3) := by decide +kernel
theorem dX9_takeWord_127 : decode cX9_takeWord 127 = .ok (.iconst (-1), 1) := by decide +kernel
theorem dX9_takeWord_128 : decode cX9_takeWord 128 = .ok (.ireturn, 1) := by decide +kernel
theorem li_122 : (122 : Int32).toInt = 122 := by decide
theorem li_97 : (97 : Int32).toInt = 97 := by decide
set_option maxHeartbeats 4000000 in
set_option maxRecDepth 100000 in
theorem t_X9_isWord (l : Launch) (dC : Nat → ClassId) (dI : Nat → Nat → Nat) (tys : List (ClassId × FieldType)) (κ : tK) (B : Nat) (ws : va_W) (hT : Ty κ tys B ws) (aK aV : Nat → Nat) (a0 : Nat) (k_a0 : κ a0 = some 9) (a1 : Nat) (k_a1 : a1 < 6) (a2 : Int32) (l_a2 : 0 ≤ a2.toInt) (h_a2 : a2.toInt ≤ 60) (a3 : Int32) (l_a3 : 0 ≤ a3.toInt) (h_a3 : a3.toInt ≤ 59) (hX : (a3.toInt ≤ ((sLen.getD a1 0 : Nat) : Int))) (sz : Nat) : Met l yX9_isWord (ws_u yX9_isWord cX9_isWord 6 (some .boolean)) ({ frames := 4, cells := 0, slots := 0, locals := 85 }) (va_Pc [.ref a0, .ref (aK a1), .int a2, .int a3] (cPreS (dC, dI) aK aV tys ws sz)) (va_Qi (fun (r : Int32) (w : va_W) => 0 ≤ r.toInt ∧ r.toInt ≤ 1 ∧ Ty κ tys B w ∧ Sm [] [] κ ws w ∧ (r.toInt ≠ 0 ∨ 1 ≤ a3.toInt)) (fun w t => cPost (dC, dI) tys w (va_A ws sz) t) (va_A ws sz)) 0 0 (va_A ws sz) := by
  refine Met.ofW (cc := cX9_isWord) (maxL := 6) (ret := (some .boolean)) (by decide) rfl ?_
  intro p e s m args below meth c s₁ B0 hml hv
  obtain ⟨rfl, ⟨hsz, hP, hK, hD0, hE⟩, hStr, hR⟩ := hv
  have hx := B0.exec
  have hb := B0.bytes
  have hr := B0.returns
  have hts0 := atoms_spec (ws := ws_u yX9_isWord cX9_isWord 6 (some .boolean)) B0.pre
  have hts : ∀ w ∈ gT, w.before _ s = true := fun w h => hts0 w (List.mem_cons_of_mem _ h)
  have hown : s.vm.findClass RX9 = some m.cls := findClass_of_methodNamed B0.named
  have hlocks := B0.notSynchronized
  subst hsz
  have hD := hD0.self (sz := s.heap.size)
  generalize hAe : va_A ws s.heap.size = A at hD hStr ⊢
  have hA : ∀ q : Nat, s.heap.size ≤ q → A q := fun q h => by rw [← hAe]; exact Or.inr h
  have hw : tW (dC, dI) tys κ B A s ws s.heap [] := ⟨hK, hP, hD, va_S.rf, hT⟩
  have hM : Sm [] [] κ ws ws := Sm.rf
  clear hP hK hD hD0 hts0
  have hl := lv_entry ([.ref a0, .ref (aK a1), .int a2, .int a3]) (n := 6) (Nat.le_of_ble_eq_true rfl)
  rw [lg_entry_eq]
  generalize (lg_sl ([.ref a0, .ref (aK a1), .int a2, .int a3]) ++ List.replicate (6 - (lg_sl ([.ref a0, .ref (aK a1), .int a2, .int a3])).length) Slot.unset).toArray = ls at hl ⊢
  have hl : lv_has ls 6 [(0, .ref a0), (1, .ref (aK a1)), (2, .int a2), (3, .int a3)] := hl
  refine t_start (fun QQ hQ => ?_)
  refine lv_iload_n hx hb dX9_isWord_0 rfl (lv_at hl 2 rfl) ?_
  refine lv_istore (lv' := [(4, .int a2), (0, .ref a0), (1, .ref (aK a1)), (2, .int a2), (3, .int a3)]) hx hb dX9_isWord_1 hl (by decide) rfl (fun ls hl => ?_)
  have J3 : ∀ (n : Nat) (H : Heap) (locs : List Loc) (ls : Array Slot), (∃ (w3 : va_W) (p3_l4 : Int32), tW (dC, dI) tys κ B A s w3 H locs ∧ Sm [] [] κ ws w3 ∧ 0 ≤ p3_l4.toInt ∧ p3_l4.toInt ≤ 60 ∧ a2.toInt ≤ p3_l4.toInt ∧ lv_has ls 6 [(0, .ref a0), (1, .ref (aK a1)), (2, .int a2), (3, .int a3), (4, .int p3_l4)] ∧ (60 - p3_l4.toInt).toNat = n) → W p l e (headSpec (ws_u yX9_isWord cX9_isWord 6 (some .boolean)) ({ frames := 4, cells := 0, slots := 0, locals := 85 })).room s m ([.ref a0, .ref (aK a1), .int a2, .int a3] : List Value).toArray below meth c H locs 0 0 QQ (F0 m 3 ls []) := by
    refine loopT _ ?_
    intro n_3 H locs ls hI ih_3
    obtain ⟨w3, p3_l4, hw, hM, l_p3_l4, h_p3_l4, li_3_0, hl, hn_3⟩ := hI
    refine lv_iload hx hb dX9_isWord_3 (lv_at hl 4 rfl) ?_
    refine lv_iload_n hx hb dX9_isWord_5 rfl (lv_at hl 3 rfl) ?_
    refine lv_icmp_ge (tgt := 53) hx hb dX9_isWord_6 (by decide) (fun c_6 => ?_) (fun c_6 => ?_)
    · simp only [fa_lt, fa_le, fa_eq] at c_6
      refine lv_iconst (v := 1) hx hb dX9_isWord_53 (by decide) ?_
      rw [hQ]
      refine W.widen (k := 0) (n := 0) (Nat.le_refl _) (Nat.le_refl _) ?_
      exact W.zret (v := 1) hx hb hr rfl (fun t ht hW => ⟨⟨1, w3, rfl, ⟨(by decide), (by decide), hw.2.2.2.2, hM, (by have := li_1; omega)⟩, by rw [ht]; exact hw.2.1, va_K.moved hW.alike hw.1, hw.2.2.1⟩, hw.2.2.2.1.F ht⟩) hw.2.2.2.1.2.2 dX9_isWord_54
    · simp only [fa_lt, fa_le, fa_eq] at c_6
      refine lv_aload_n hx hb dX9_isWord_9 rfl (lv_at hl 0 rfl) ?_
      refine t_geti (ci := 9) (C := RX9) (T := TX9) (N := 4) hx hb hts iX9 hown hw k_a0 rfl rfl rfl 2 (by decide) (hts _ tw_41) (fun _ h9 => h9) dX9_isWord_10 rfl (fun v10 l_v10 h_v10 f_a0_X9_2 => ?_)
      have l_v10 : 0 ≤ v10.toInt := l_v10
      have h_v10 : v10.toInt ≤ 400 := h_v10
      refine lv_iload hx hb dX9_isWord_13 (lv_at hl 4 rfl) ?_
      refine lv_iadd hx hb dX9_isWord_15 ?_
      refine lv_topi (fun v15 e_v15 => ?_)
      have e_v15 : v15.toInt = v10.toInt + p3_l4.toInt := ad_i e_v15 rfl rfl (by omega) (by omega)
      refine lv_iload_n hx hb dX9_isWord_16 rfl (lv_at hl 2 rfl) ?_
      refine lv_isub hx hb dX9_isWord_17 ?_
      refine lv_topi (fun v17 e_v17 => ?_)
      have e_v17 : v17.toInt = v15.toInt - a2.toInt := sb_i e_v17 rfl rfl (by omega) (by omega)
      refine lv_istore (lv' := [(5, .int v17), (0, .ref a0), (1, .ref (aK a1)), (2, .int a2), (3, .int a3), (4, .int p3_l4)]) hx hb dX9_isWord_18 hl (by decide) rfl (fun ls hl => ?_)
      refine lv_iload hx hb dX9_isWord_20 (lv_at hl 0 rfl) ?_
      refine lv_aload_n hx hb dX9_isWord_22 rfl (lv_at hl 1 rfl) ?_
      refine t_geti (ci := 9) (C := RX9) (T := TX9) (N := 4) hx hb hts iX9 hown hw k_a0 rfl rfl rfl 1 (by decide) (hts _ tw_37) (fun _ h9 => h9) dX9_isWord_23 rfl (fun v23 l_v23 h_v23 f_a0_X9_1 => ?_)
      have l_v23 : 0 ≤ v23.toInt := l_v23
      have h_v23 : v23.toInt ≤ 400 := h_v23
      refine lv_icmp_ge (tgt := 45) hx hb dX9_isWord_26 (by decide) (fun c_26 => ?_) (fun c_26 => ?_)
      · simp only [fa_lt, fa_le, fa_eq] at c_26
        refine lv_iconst (v := 0) hx hb dX9_isWord_45 (by decide) ?_
        rw [hQ]
        refine W.widen (k := 0) (n := 0) (Nat.le_refl _) (Nat.le_refl _) ?_
        exact W.zret (v := 0) hx hb hr rfl (fun t ht hW => ⟨⟨0, w3, rfl, ⟨(by decide), (by decide), hw.2.2.2.2, hM, (by have := li_0; omega)⟩, by rw [ht]; exact hw.2.1, va_K.moved hW.alike hw.1, hw.2.2.1⟩, hw.2.2.2.1.F ht⟩) hw.2.2.2.1.2.2 dX9_isWord_46
      · simp only [fa_lt, fa_le, fa_eq] at c_26
        refine lv_aload_n hx hb dX9_isWord_29 rfl (lv_at hl 1 rfl) ?_
        refine t_getr (k1 := 49) (ci := 9) (C := RX9) (T := TX9) (N := 4) hx hb hts iX9 hown hw k_a0 rfl rfl rfl 0 (by decide) (hts _ tw_36) (fun _ h9 => h9) dX9_isWord_30 rfl (fun v30 k_v30 f_a0_X9_0 => ?_)
        refine lv_iload hx hb dX9_isWord_33 (lv_at hl 0 rfl) ?_
        refine t_bald hx hb hw k_v30 rfl rfl (by omega) (show v17.toInt < 400 by omega) dX9_isWord_35 (fun v35 r_v35 s_v35 q_v35 => ?_)
        have l_v35 := i32_lo v35
        have h_v35 := i32_hi v35
        refine lv_aload_n hx hb dX9_isWord_36 rfl (lv_at hl 2 rfl) ?_
        refine lv_iload hx hb dX9_isWord_37 (lv_at hl 5 rfl) ?_
        have ek_39 : nI p3_l4.toInt.toNat = p3_l4 := nI_back (by omega)
        have hk_39 : p3_l4.toInt.toNat < sLen.getD a1 0 := by omega
        refine t_callE (va_runV (As := [.int (nI p3_l4.toInt.toNat)]) (rest := [.int v35]) ⟨hx, hb, hml, hown, hts⟩ (s_charAt l dC dI aK aV a1 p3_l4.toInt.toNat k_a1 hk_39 H.size) (cwV 1 hts (gUV tw_519 tw_520 tw_521 tw_15 tw_522) rfl rfl rfl (by decide +kernel) ⟨(Nat.le_of_ble_eq_true rfl), (Nat.le_of_ble_eq_true rfl)⟩) ⟨cPreS.blind, vk_recv hStr.1 (i := a1) k_a1 hw.2.2.2.1, cPreS.use (va_P_nil _ _ _) (hw.1.sub (tys' := []) [] rfl) (va_D_nil (fun _ => True)) hE hStr hR hw.2.2.2.1 (hw.freeE hA)⟩ rfl rfl hl.1 (by rw [ek_39]; rfl) (lv_room (Nat.le_of_ble_eq_true rfl)) dX9_isWord_39 ⟨(Nat.le_of_ble_eq_true rfl), (Nat.le_of_ble_eq_true rfl)⟩) hw hA (fun v39 _ H locs hp hw => ?_)
        have l_v39 := i32_lo v39
        have h_v39 := i32_hi v39
        refine lv_icmp_eq (tgt := 47) hx hb dX9_isWord_42 (by decide) (fun c_42 => ?_) (fun c_42 => ?_)
        · simp only [fa_lt, fa_le, fa_eq] at c_42
          obtain ⟨v47, e_v47⟩ : ∃ y : Int32, y = p3_l4 + 1 := ⟨_, rfl⟩
          refine lv_iinc (v := v47) (lv' := [(4, .int v47), (5, .int v17), (0, .ref a0), (1, .ref (aK a1)), (2, .int a2), (3, .int a3)]) hx hb dX9_isWord_47 hl (k := 5) rfl e_v47.symm (by decide) rfl (fun ls hl => ?_)
          have e_v47 : v47.toInt = p3_l4.toInt + 1 := ad_i e_v47 rfl li_1 (by omega) (by omega)
          refine lv_goto (tgt := 3) hx hb dX9_isWord_50 (by decide) ?_
          exact ih_3 _ _ _ _ (by omega) ⟨w3, v47, hw, hM, (by omega), (by omega), (by omega), (lv_sub hl [2, 3, 4, 5, 0] rfl), rfl⟩
        · simp only [fa_lt, fa_le, fa_eq] at c_42
          refine lv_iconst (v := 0) hx hb dX9_isWord_45 (by decide) ?_
          rw [hQ]
          refine W.widen (k := 0) (n := 0) (Nat.le_refl _) (Nat.le_refl _) ?_
          exact W.zret (v := 0) hx hb hr rfl (fun t ht hW => ⟨⟨0, w3, rfl, ⟨(by decide), (by decide), hw.2.2.2.2, hM, (by have := li_0; omega)⟩, by rw [ht]; exact hw.2.1, va_K.moved hW.alike hw.1, hw.2.2.1⟩, hw.2.2.2.1.F ht⟩) hw.2.2.2.1.2.2 dX9_isWord_46
  exact J3 _ _ _ _ ⟨ws, a2, hw, hM, (by omega), (by omega), (by omega), (lv_sub hl [1, 2, 3, 4, 0] rfl), rfl⟩
set_option maxHeartbeats 4000000 in
set_option maxRecDepth 100000 in
theorem t_X9_takeWord (l : Launch) (dC : Nat → ClassId) (dI : Nat → Nat → Nat) (tys : List (ClassId × FieldType)) (κ : tK) (B : Nat) (ws : va_W) (hT : Ty κ tys B ws) (aK aV : Nat → Nat) (a0 : Nat) (k_a0 : κ a0 = some 9) (a1 : Nat) (k_a1 : a1 < 6) (sz : Nat) : Met l yX9_takeWord (ws_u yX9_takeWord cX9_takeWord 6 (some .int)) ({ frames := 5, cells := 0, slots := 0, locals := 110 }) (va_Pc [.ref a0, .ref (aK a1)] (cPreS (dC, dI) aK aV tys ws sz)) (va_Qi (fun (r : Int32) (w : va_W) => Ty κ tys B w ∧ Sm [(9, 2)] [] κ ws w) (fun w t => cPost (dC, dI) tys w (va_A ws sz) t) (va_A ws sz)) 0 0 (va_A ws sz) := by
  refine Met.ofW (cc := cX9_takeWord) (maxL := 6) (ret := (some .int)) (by decide) rfl ?_
  intro p e s m args below meth c s₁ B0 hml hv
  obtain ⟨rfl, ⟨hsz, hP, hK, hD0, hE⟩, hStr, hR⟩ := hv
  have hx := B0.exec
  have hb := B0.bytes
  have hr := B0.returns
  have hts0 := atoms_spec (ws := ws_u yX9_takeWord cX9_takeWord 6 (some .int)) B0.pre
  have hts : ∀ w ∈ gT, w.before _ s = true := fun w h => hts0 w (List.mem_cons_of_mem _ h)
  have hown : s.vm.findClass RX9 = some m.cls := findClass_of_methodNamed B0.named
  have hlocks := B0.notSynchronized
  subst hsz
  have hD := hD0.self (sz := s.heap.size)
  generalize hAe : va_A ws s.heap.size = A at hD hStr ⊢
  have hA : ∀ q : Nat, s.heap.size ≤ q → A q := fun q h => by rw [← hAe]; exact Or.inr h
  have hw : tW (dC, dI) tys κ B A s ws s.heap [] := ⟨hK, hP, hD, va_S.rf, hT⟩
  have hM : Sm [(9, 2)] [] κ ws ws := Sm.rf
  clear hP hK hD hD0 hts0
  have hl := lv_entry ([.ref a0, .ref (aK a1)]) (n := 6) (Nat.le_of_ble_eq_true rfl)
  rw [lg_entry_eq]
  generalize (lg_sl ([.ref a0, .ref (aK a1)]) ++ List.replicate (6 - (lg_sl ([.ref a0, .ref (aK a1)])).length) Slot.unset).toArray = ls at hl ⊢
  have hl : lv_has ls 6 [(0, .ref a0), (1, .ref (aK a1))] := hl
  refine t_start (fun QQ hQ => ?_)
  refine lv_aload_n hx hb dX9_takeWord_0 rfl (lv_at hl 0 rfl) ?_
  refine t_geti (ci := 9) (C := RX9) (T := TX9) (N := 4) hx hb hts iX9 hown hw k_a0 rfl rfl rfl 2 (by decide) (hts _ tw_41) (fun _ h9 => h9) dX9_takeWord_1 rfl (fun v1 l_v1 h_v1 f_a0_X9_2 => ?_)
  have l_v1 : 0 ≤ v1.toInt := l_v1
  have h_v1 : v1.toInt ≤ 400 := h_v1
  refine lv_istore_n (lv' := [(2, .int v1), (0, .ref a0), (1, .ref (aK a1))]) hx hb dX9_takeWord_4 rfl hl (by decide) rfl (fun ls hl => ?_)
  have J5 : ∀ (n : Nat) (H : Heap) (locs : List Loc) (ls : Array Slot), (∃ (w5 : va_W) (p5_l2 : Int32), tW (dC, dI) tys κ B A s w5 H locs ∧ Sm [(9, 2)] [] κ ws w5 ∧ 0 ≤ p5_l2.toInt ∧ p5_l2.toInt ≤ 400 ∧ fld w5 a0 9 2 (.int v1) ∧ lv_has ls 6 [(0, .ref a0), (1, .ref (aK a1)), (2, .int p5_l2)] ∧ (400 - p5_l2.toInt).toNat = n) → W p l e (headSpec (ws_u yX9_takeWord cX9_takeWord 6 (some .int)) ({ frames := 5, cells := 0, slots := 0, locals := 110 })).room s m ([.ref a0, .ref (aK a1)] : List Value).toArray below meth c H locs 0 0 QQ (F0 m 5 ls []) := by
    refine loopT _ ?_
    intro n_5 H locs ls hI ih_5
    obtain ⟨w5, p5_l2, hw, hM, l_p5_l2, h_p5_l2, f_a0_X9_2, hl, hn_5⟩ := hI
    refine lv_iload_n hx hb dX9_takeWord_5 rfl (lv_at hl 2 rfl) ?_
    refine lv_aload_n hx hb dX9_takeWord_6 rfl (lv_at hl 0 rfl) ?_
    refine t_geti (ci := 9) (C := RX9) (T := TX9) (N := 4) hx hb hts iX9 hown hw k_a0 rfl rfl rfl 1 (by decide) (hts _ tw_37) (fun _ h9 => h9) dX9_takeWord_7 rfl (fun v7 l_v7 h_v7 f_a0_X9_1 => ?_)
    have l_v7 : 0 ≤ v7.toInt := l_v7
    have h_v7 : v7.toInt ≤ 400 := h_v7
    have J41 : ∀ (H : Heap) (locs : List Loc) (ls : Array Slot) (w41 : va_W), tW (dC, dI) tys κ B A s w41 H locs → Sm [(9, 2)] [] κ ws w41 → fld w41 a0 9 1 (.int v7) → fld w41 a0 9 2 (.int v1) → lv_has ls 6 [(0, .ref a0), (1, .ref (aK a1)), (2, .int p5_l2)] → W p l e (headSpec (ws_u yX9_takeWord cX9_takeWord 6 (some .int)) ({ frames := 5, cells := 0, slots := 0, locals := 110 })).room s m ([.ref a0, .ref (aK a1)] : List Value).toArray below meth c H locs 0 0 QQ (F0 m 41 ls []) := by
      intro H locs ls w41 hw hM f_a0_X9_1 f_a0_X9_2 hl
      refine lv_iconst (v := 0) hx hb dX9_takeWord_41 (by decide) ?_
      refine lv_istore_n (lv' := [(3, .int 0), (0, .ref a0), (1, .ref (aK a1)), (2, .int p5_l2)]) hx hb dX9_takeWord_42 rfl hl (by decide) rfl (fun ls hl => ?_)
      refine lv_iconst (v := 0) hx hb dX9_takeWord_43 (by decide) ?_
      refine lv_istore (lv' := [(4, .int 0), (3, .int 0), (0, .ref a0), (1, .ref (aK a1)), (2, .int p5_l2)]) hx hb dX9_takeWord_44 hl (by decide) rfl (fun ls hl => ?_)
      refine lv_iconst (v := 0) hx hb dX9_takeWord_46 (by decide) ?_
      refine lv_istore (lv' := [(5, .int 0), (4, .int 0), (3, .int 0), (0, .ref a0), (1, .ref (aK a1)), (2, .int p5_l2)]) hx hb dX9_takeWord_47 hl (by decide) rfl (fun ls hl => ?_)
      have J49 : ∀ (n : Nat) (H : Heap) (locs : List Loc) (ls : Array Slot), (∃ (w49 : va_W) (p49_l3 : Int32) (p49_l4 : Int32) (p49_l5 : Int32), tW (dC, dI) tys κ B A s w49 H locs ∧ Sm [(9, 2)] [] κ ws w49 ∧ (-2147483648) ≤ p49_l3.toInt ∧ p49_l3.toInt ≤ 2147483647 ∧ 0 ≤ p49_l4.toInt ∧ p49_l4.toInt ≤ 60 ∧ 0 ≤ p49_l5.toInt ∧ p49_l5.toInt ≤ 60 ∧ fld w49 a0 9 1 (.int v7) ∧ fld w49 a0 9 2 (.int v1) ∧ lv_has ls 6 [(0, .ref a0), (1, .ref (aK a1)), (2, .int p5_l2), (3, .int p49_l3), (4, .int p49_l4), (5, .int p49_l5)] ∧ (60 - p49_l5.toInt).toNat = n) → W p l e (headSpec (ws_u yX9_takeWord cX9_takeWord 6 (some .int)) ({ frames := 5, cells := 0, slots := 0, locals := 110 })).room s m ([.ref a0, .ref (aK a1)] : List Value).toArray below meth c H locs 0 0 QQ (F0 m 49 ls []) := by
        refine loopT _ ?_
        intro n_49 H locs ls hI ih_49
        obtain ⟨w49, p49_l3, p49_l4, p49_l5, hw, hM, l_p49_l3, h_p49_l3, l_p49_l4, h_p49_l4, l_p49_l5, h_p49_l5, f_a0_X9_1, f_a0_X9_2, hl, hn_49⟩ := hI
        refine lv_iload hx hb dX9_takeWord_49 (lv_at hl 5 rfl) ?_
        refine lv_aload_n hx hb dX9_takeWord_51 rfl (lv_at hl 1 rfl) ?_
        refine t_callE (va_runV (As := []) (rest := [.int p49_l5]) ⟨hx, hb, hml, hown, hts⟩ (s_length l dC dI aK aV a1 k_a1 H.size) (cwV 0 hts (gUV tw_509 tw_510 tw_511 tw_15 tw_512) rfl rfl rfl (by decide +kernel) ⟨(Nat.le_of_ble_eq_true rfl), (Nat.le_of_ble_eq_true rfl)⟩) ⟨cPreS.blind, vk_recv hStr.1 (i := a1) k_a1 hw.2.2.2.1, cPreS.use (va_P_nil _ _ _) (hw.1.sub (tys' := []) [] rfl) (va_D_nil (fun _ => True)) hE hStr hR hw.2.2.2.1 (hw.freeE hA)⟩ rfl rfl hl.1 rfl (lv_room (Nat.le_of_ble_eq_true rfl)) dX9_takeWord_52 ⟨(Nat.le_of_ble_eq_true rfl), (Nat.le_of_ble_eq_true rfl)⟩) hw hA (fun v52 _ H locs hp hw => ?_)
        have e_v52 : v52.toInt = ((sLen.getD a1 0 : Nat) : Int) := by rw [hp]; exact nI_toInt (Nat.lt_of_le_of_lt (sLen60 k_a1) (by decide))
        have hz_v52 := sLen60 (i := a1) k_a1
        refine lv_icmp_ge (tgt := 127) hx hb dX9_takeWord_55 (by decide) (fun c_55 => ?_) (fun c_55 => ?_)
        · simp only [fa_lt, fa_le, fa_eq] at c_55
          refine lv_iconst (v := (-1)) hx hb dX9_takeWord_127 (by decide) ?_
          rw [hQ]
          refine W.widen (k := 0) (n := 0) (Nat.le_refl _) (Nat.le_refl _) ?_
          exact W.iret (v := (-1)) hx hb hr (fun t ht hW => ⟨⟨(-1), w49, rfl, ⟨hw.2.2.2.2, hM⟩, by rw [ht]; exact hw.2.1, va_K.moved hW.alike hw.1, hw.2.2.1⟩, hw.2.2.2.1.F ht⟩) hw.2.2.2.1.2.2 dX9_takeWord_128
        · simp only [fa_lt, fa_le, fa_eq] at c_55
          refine lv_aload_n hx hb dX9_takeWord_58 rfl (lv_at hl 0 rfl) ?_
          refine t_geti (ci := 9) (C := RX9) (T := TX9) (N := 4) hx hb hts iX9 hown hw k_a0 rfl rfl rfl 3 (by decide) (hts _ tw_44) (fun _ h9 => h9) dX9_takeWord_59 rfl (fun v59 l_v59 h_v59 f_a0_X9_3 => ?_)
          have l_v59 : 0 ≤ v59.toInt := l_v59
          have h_v59 : v59.toInt ≤ 3205 := h_v59
          refine lv_if_ne (tgt := 127) hx hb dX9_takeWord_62 (by decide) (fun c_62 => ?_) (fun c_62 => ?_)
          · simp only [fa_lt, fa_le, fa_eq, li_0] at c_62
            refine lv_iconst (v := (-1)) hx hb dX9_takeWord_127 (by decide) ?_
            rw [hQ]
            refine W.widen (k := 0) (n := 0) (Nat.le_refl _) (Nat.le_refl _) ?_
            exact W.iret (v := (-1)) hx hb hr (fun t ht hW => ⟨⟨(-1), w49, rfl, ⟨hw.2.2.2.2, hM⟩, by rw [ht]; exact hw.2.1, va_K.moved hW.alike hw.1, hw.2.2.1⟩, hw.2.2.2.1.F ht⟩) hw.2.2.2.1.2.2 dX9_takeWord_128
          · simp only [fa_lt, fa_le, fa_eq, li_0] at c_62
            refine lv_aload_n hx hb dX9_takeWord_65 rfl (lv_at hl 1 rfl) ?_
            refine lv_iload hx hb dX9_takeWord_66 (lv_at hl 5 rfl) ?_
            have ek_68 : nI p49_l5.toInt.toNat = p49_l5 := nI_back (by omega)
            have hk_68 : p49_l5.toInt.toNat < sLen.getD a1 0 := by omega
            refine t_callE (va_runV (As := [.int (nI p49_l5.toInt.toNat)]) (rest := []) ⟨hx, hb, hml, hown, hts⟩ (s_charAt l dC dI aK aV a1 p49_l5.toInt.toNat k_a1 hk_68 H.size) (cwV 1 hts (gUV tw_519 tw_520 tw_521 tw_15 tw_522) rfl rfl rfl (by decide +kernel) ⟨(Nat.le_of_ble_eq_true rfl), (Nat.le_of_ble_eq_true rfl)⟩) ⟨cPreS.blind, vk_recv hStr.1 (i := a1) k_a1 hw.2.2.2.1, cPreS.use (va_P_nil _ _ _) (hw.1.sub (tys' := []) [] rfl) (va_D_nil (fun _ => True)) hE hStr hR hw.2.2.2.1 (hw.freeE hA)⟩ rfl rfl hl.1 (by rw [ek_68]; rfl) (lv_room (Nat.le_of_ble_eq_true rfl)) dX9_takeWord_68 ⟨(Nat.le_of_ble_eq_true rfl), (Nat.le_of_ble_eq_true rfl)⟩) hw hA (fun v68 _ H locs hp hw => ?_)
            have l_v68 := i32_lo v68
            have h_v68 := i32_hi v68
            refine lv_bipush (v := 32) hx hb dX9_takeWord_71 (by decide) ?_
            have J121 : ∀ (H : Heap) (locs : List Loc) (ls : Array Slot) (w121 : va_W) (p121_l3 : Int32) (p121_l4 : Int32), tW (dC, dI) tys κ B A s w121 H locs → Sm [(9, 2)] [] κ ws w121 → (-2147483648) ≤ p121_l3.toInt → p121_l3.toInt ≤ 2147483647 → 0 ≤ p121_l4.toInt → p121_l4.toInt ≤ 60 → fld w121 a0 9 1 (.int v7) → fld w121 a0 9 2 (.int v1) → fld w121 a0 9 3 (.int v59) → lv_has ls 6 [(0, .ref a0), (1, .ref (aK a1)), (2, .int p5_l2), (3, .int p121_l3), (4, .int p121_l4), (5, .int p49_l5)] → W p l e (headSpec (ws_u yX9_takeWord cX9_takeWord 6 (some .int)) ({ frames := 5, cells := 0, slots := 0, locals := 110 })).room s m ([.ref a0, .ref (aK a1)] : List Value).toArray below meth c H locs 0 0 QQ (F0 m 121 ls []) := by
              intro H locs ls w121 p121_l3 p121_l4 hw hM l_p121_l3 h_p121_l3 l_p121_l4 h_p121_l4 f_a0_X9_1 f_a0_X9_2 f_a0_X9_3 hl
              obtain ⟨v121, e_v121⟩ : ∃ y : Int32, y = p49_l5 + 1 := ⟨_, rfl⟩
              refine lv_iinc (v := v121) (lv' := [(5, .int v121), (0, .ref a0), (1, .ref (aK a1)), (2, .int p5_l2), (3, .int p121_l3), (4, .int p121_l4)]) hx hb dX9_takeWord_121 hl (k := 5) rfl e_v121.symm (by decide) rfl (fun ls hl => ?_)
              have e_v121 : v121.toInt = p49_l5.toInt + 1 := ad_i e_v121 rfl li_1 (by omega) (by omega)
              refine lv_goto (tgt := 49) hx hb dX9_takeWord_124 (by decide) ?_
              exact ih_49 _ _ _ _ (by omega) ⟨w121, p121_l3, p121_l4, v121, hw, hM, (by omega), (by omega), (by omega), (by omega), (by omega), (by omega), f_a0_X9_1, f_a0_X9_2, (lv_sub hl [1, 2, 3, 4, 5, 0] rfl), rfl⟩
            refine lv_icmp_eq (tgt := 79) hx hb dX9_takeWord_73 (by decide) (fun c_73 => ?_) (fun c_73 => ?_)
            · simp only [fa_lt, fa_le, fa_eq, li_32] at c_73
              refine lv_iload hx hb dX9_takeWord_79 (lv_at hl 5 rfl) ?_
              refine lv_iload hx hb dX9_takeWord_81 (lv_at hl 4 rfl) ?_
              refine lv_isub hx hb dX9_takeWord_83 ?_
              refine lv_topi (fun v83 e_v83 => ?_)
              have e_v83 : v83.toInt = p49_l5.toInt - p49_l4.toInt := sb_i e_v83 rfl rfl (by omega) (by omega)
              refine lv_iload_n hx hb dX9_takeWord_84 rfl (lv_at hl 2 rfl) ?_
              refine lv_aload_n hx hb dX9_takeWord_85 rfl (lv_at hl 0 rfl) ?_
              refine t_getk (ci := 9) (C := RX9) (T := TX9) (N := 4) hx hb hts iX9 hown hw rfl 2 (by decide) (hts _ tw_41) (fun _ h9 => h9) dX9_takeWord_86 f_a0_X9_2 ?_
              refine lv_isub hx hb dX9_takeWord_89 ?_
              refine lv_topi (fun v89 e_v89 => ?_)
              have e_v89 : v89.toInt = p5_l2.toInt - v1.toInt := sb_i e_v89 rfl rfl (by omega) (by omega)
              have J112 : ∀ (H : Heap) (locs : List Loc) (ls : Array Slot) (w112 : va_W), tW (dC, dI) tys κ B A s w112 H locs → Sm [(9, 2)] [] κ ws w112 → fld w112 a0 9 1 (.int v7) → fld w112 a0 9 2 (.int v1) → fld w112 a0 9 3 (.int v59) → lv_has ls 6 [(0, .ref a0), (1, .ref (aK a1)), (2, .int p5_l2), (3, .int p49_l3), (4, .int p49_l4), (5, .int p49_l5)] → W p l e (headSpec (ws_u yX9_takeWord cX9_takeWord 6 (some .int)) ({ frames := 5, cells := 0, slots := 0, locals := 110 })).room s m ([.ref a0, .ref (aK a1)] : List Value).toArray below meth c H locs 0 0 QQ (F0 m 112 ls []) := by
                intro H locs ls w112 hw hM f_a0_X9_1 f_a0_X9_2 f_a0_X9_3 hl
                obtain ⟨v112, e_v112⟩ : ∃ y : Int32, y = p49_l3 + 1 := ⟨_, rfl⟩
                refine lv_iinc (v := v112) (lv' := [(3, .int v112), (0, .ref a0), (1, .ref (aK a1)), (2, .int p5_l2), (4, .int p49_l4), (5, .int p49_l5)]) hx hb dX9_takeWord_112 hl (k := 3) rfl e_v112.symm (by decide) rfl (fun ls hl => ?_)
                have l_v112 := i32_lo v112
                have h_v112 := i32_hi v112
                refine lv_iload hx hb dX9_takeWord_115 (lv_at hl 5 rfl) ?_
                refine lv_iconst (v := 1) hx hb dX9_takeWord_117 (by decide) ?_
                refine lv_iadd hx hb dX9_takeWord_118 ?_
                refine lv_topi (fun v118 e_v118 => ?_)
                have e_v118 : v118.toInt = p49_l5.toInt + 1 := ad_i e_v118 rfl li_1 (by omega) (by omega)
                refine lv_istore (lv' := [(4, .int v118), (3, .int v112), (0, .ref a0), (1, .ref (aK a1)), (2, .int p5_l2), (5, .int p49_l5)]) hx hb dX9_takeWord_119 hl (by decide) rfl (fun ls hl => ?_)
                exact J121 _ _ _ w112 v112 v118 hw hM (by omega) (by omega) (by omega) (by omega) f_a0_X9_1 f_a0_X9_2 f_a0_X9_3 (lv_sub hl [2, 3, 4, 1, 0, 5] rfl)
              refine lv_icmp_ne (tgt := 112) hx hb dX9_takeWord_90 (by decide) (fun c_90 => ?_) (fun c_90 => ?_)
              · simp only [fa_lt, fa_le, fa_eq] at c_90
                exact J112 _ _ _ w49 hw hM f_a0_X9_1 f_a0_X9_2 f_a0_X9_3 (lv_sub hl [0, 1, 2, 3, 4, 5] rfl)
              · simp only [fa_lt, fa_le, fa_eq] at c_90
                refine lv_aload_n hx hb dX9_takeWord_93 rfl (lv_at hl 0 rfl) ?_
                refine lv_aload_n hx hb dX9_takeWord_94 rfl (lv_at hl 1 rfl) ?_
                refine lv_iload hx hb dX9_takeWord_95 (lv_at hl 4 rfl) ?_
                refine lv_iload hx hb dX9_takeWord_97 (lv_at hl 5 rfl) ?_
                refine t_calli (va_runV (As := [.ref (aK a1), .int p49_l4, .int p49_l5]) (rest := []) ⟨hx, hb, hml, hown, hts⟩ (t_X9_isWord l dC dI tys κ B w49 hw.2.2.2.2 aK aV a0 k_a0 a1 k_a1 p49_l4 (by omega) (by omega) p49_l5 (by omega) (by omega) (by omega) H.size) (cwV 3 hts (gUV tw_557 tw_559 ts_0_2 tw_2 tw_560) rfl rfl rfl (by decide +kernel) ⟨(Nat.le_of_ble_eq_true rfl), (Nat.le_of_ble_eq_true rfl)⟩) ⟨cPreS.blind, t_recv hw (ci := 9) k_a0 rfl rfl, cPreS.use hw.2.1 hw.1 hw.2.2.1 hE hStr hR hw.2.2.2.1 (hw.free hA)⟩ rfl rfl hl.1 rfl (lv_room (Nat.le_of_ble_eq_true rfl)) dX9_takeWord_99 ⟨(Nat.le_of_ble_eq_true rfl), (Nat.le_of_ble_eq_true rfl)⟩) hw hA (fun _ _ h => h.2.2.1) (fun v99 w_1 H locs hp hw => ?_)
                obtain ⟨l_v99, h_v99, _, hm, x_v99_0⟩ := hp
                have hM := hM.trans hm (by decide) (by decide)
                have f_a0_X9_1 := hm.1 _ _ _ _ f_a0_X9_1 (by decide)
                have f_a0_X9_2 := hm.1 _ _ _ _ f_a0_X9_2 (by decide)
                have f_a0_X9_3 := hm.1 _ _ _ _ f_a0_X9_3 (by decide)
                refine lv_if_eq (tgt := 112) hx hb dX9_takeWord_102 (by decide) (fun c_102 => ?_) (fun c_102 => ?_)
                · simp only [fa_lt, fa_le, fa_eq, li_0] at c_102
                  exact J112 _ _ _ w_1 hw hM f_a0_X9_1 f_a0_X9_2 f_a0_X9_3 (lv_sub hl [0, 1, 2, 3, 4, 5] rfl)
                · simp only [fa_lt, fa_le, fa_eq, li_0] at c_102
                  refine lv_aload_n hx hb dX9_takeWord_105 rfl (lv_at hl 0 rfl) ?_
                  refine lv_iload_n hx hb dX9_takeWord_106 rfl (lv_at hl 2 rfl) ?_
                  refine t_callv (va_runV (As := [.int p5_l2]) (rest := []) ⟨hx, hb, hml, hown, hts⟩ (t_X9_moveTo l dC dI tys κ B w_1 hw.2.2.2.2 a0 k_a0 p5_l2 (by omega) (by omega) H.size) (cwV 1 hts (gUV tw_496 tw_498 ts_0_0 tw_2 tw_499) rfl rfl rfl (by decide +kernel) ⟨(Nat.le_of_ble_eq_true rfl), (Nat.le_of_ble_eq_true rfl)⟩) ⟨cPre.blind, t_recv hw (ci := 9) k_a0 rfl rfl, cPre.use hw.2.1 hw.1 hw.2.2.1 hE⟩ rfl rfl hl.1 rfl (lv_room (Nat.le_of_ble_eq_true rfl)) dX9_takeWord_107 ⟨(Nat.le_of_ble_eq_true rfl), (Nat.le_of_ble_eq_true rfl)⟩) hw hA (fun _ h => h.1) (fun w_2 H locs hp hw => ?_)
                  obtain ⟨_, hm⟩ := hp
                  have hM := hM.trans hm (by decide) (by decide)
                  have f_a0_X9_1 := hm.1 _ _ _ _ f_a0_X9_1 (by decide)
                  have f_a0_X9_3 := hm.1 _ _ _ _ f_a0_X9_3 (by decide)
                  refine lv_iload_n hx hb dX9_takeWord_110 rfl (lv_at hl 3 rfl) ?_
                  rw [hQ]
                  refine W.widen (k := 0) (n := 0) (Nat.le_refl _) (Nat.le_refl _) ?_
                  exact W.iret (v := p49_l3) hx hb hr (fun t ht hW => ⟨⟨p49_l3, w_2, rfl, ⟨hw.2.2.2.2, hM⟩, by rw [ht]; exact hw.2.1, va_K.moved hW.alike hw.1, hw.2.2.1⟩, hw.2.2.2.1.F ht⟩) hw.2.2.2.1.2.2 dX9_takeWord_111
            · simp only [fa_lt, fa_le, fa_eq, li_32] at c_73
              refine lv_goto (tgt := 121) hx hb dX9_takeWord_76 (by decide) ?_
              exact J121 _ _ _ w49 p49_l3 p49_l4 hw hM (by omega) (by omega) (by omega) (by omega) f_a0_X9_1 f_a0_X9_2 f_a0_X9_3 (lv_sub hl [0, 1, 2, 3, 4, 5] rfl)
      exact J49 _ _ _ _ ⟨w41, 0, 0, 0, hw, hM, (by decide), (by decide), (by decide), (by decide), (by decide), (by decide), f_a0_X9_1, f_a0_X9_2, (lv_sub hl [3, 4, 5, 2, 1, 0] rfl), rfl⟩
    refine lv_icmp_ge (tgt := 41) hx hb dX9_takeWord_10 (by decide) (fun c_10 => ?_) (fun c_10 => ?_)
    · simp only [fa_lt, fa_le, fa_eq] at c_10
      exact J41 _ _ _ w5 hw hM f_a0_X9_1 f_a0_X9_2 (lv_sub hl [0, 1, 2] rfl)
    · simp only [fa_lt, fa_le, fa_eq] at c_10
      refine lv_aload_n hx hb dX9_takeWord_13 rfl (lv_at hl 0 rfl) ?_
      refine t_getr (k1 := 49) (ci := 9) (C := RX9) (T := TX9) (N := 4) hx hb hts iX9 hown hw k_a0 rfl rfl rfl 0 (by decide) (hts _ tw_36) (fun _ h9 => h9) dX9_takeWord_14 rfl (fun v14 k_v14 f_a0_X9_0 => ?_)
      refine lv_iload_n hx hb dX9_takeWord_17 rfl (lv_at hl 2 rfl) ?_
      refine t_bald hx hb hw k_v14 rfl rfl (by omega) (show p5_l2.toInt < 400 by omega) dX9_takeWord_18 (fun v18 r_v18 s_v18 q_v18 => ?_)
      have l_v18 := i32_lo v18
      have h_v18 := i32_hi v18
      refine lv_bipush (v := 97) hx hb dX9_takeWord_19 (by decide) ?_
      refine lv_icmp_lt (tgt := 41) hx hb dX9_takeWord_21 (by decide) (fun c_21 => ?_) (fun c_21 => ?_)
      · simp only [fa_lt, fa_le, fa_eq, li_97] at c_21
        exact J41 _ _ _ w5 hw hM f_a0_X9_1 f_a0_X9_2 (lv_sub hl [0, 1, 2] rfl)
      · simp only [fa_lt, fa_le, fa_eq, li_97] at c_21
        refine lv_aload_n hx hb dX9_takeWord_24 rfl (lv_at hl 0 rfl) ?_
        refine t_getk (ci := 9) (C := RX9) (T := TX9) (N := 4) hx hb hts iX9 hown hw rfl 0 (by decide) (hts _ tw_36) (fun _ h9 => h9) dX9_takeWord_25 f_a0_X9_0 ?_
        refine lv_iload_n hx hb dX9_takeWord_28 rfl (lv_at hl 2 rfl) ?_
        refine t_bald hx hb hw k_v14 rfl rfl (by omega) (show p5_l2.toInt < 400 by omega) dX9_takeWord_29 (fun v29 r_v29 s_v29 q_v29 => ?_)
        have l_v29 := i32_lo v29
        have h_v29 := i32_hi v29
        refine lv_bipush (v := 122) hx hb dX9_takeWord_30 (by decide) ?_
        refine lv_icmp_gt (tgt := 41) hx hb dX9_takeWord_32 (by decide) (fun c_32 => ?_) (fun c_32 => ?_)
        · simp only [fa_lt, fa_le, fa_eq, li_122] at c_32
          exact J41 _ _ _ w5 hw hM f_a0_X9_1 f_a0_X9_2 (lv_sub hl [0, 1, 2] rfl)
        · simp only [fa_lt, fa_le, fa_eq, li_122] at c_32
          obtain ⟨v35, e_v35⟩ : ∃ y : Int32, y = p5_l2 + 1 := ⟨_, rfl⟩
          refine lv_iinc (v := v35) (lv' := [(2, .int v35), (0, .ref a0), (1, .ref (aK a1))]) hx hb dX9_takeWord_35 hl (k := 2) rfl e_v35.symm (by decide) rfl (fun ls hl => ?_)
          have e_v35 : v35.toInt = p5_l2.toInt + 1 := ad_i e_v35 rfl li_1 (by omega) (by omega)
          refine lv_goto (tgt := 5) hx hb dX9_takeWord_38 (by decide) ?_
          exact ih_5 _ _ _ _ (by omega) ⟨w5, v35, hw, hM, (by omega), (by omega), f_a0_X9_2, (lv_sub hl [1, 2, 0] rfl), rfl⟩
  exact J5 _ _ _ _ ⟨ws, v1, hw, hM, (by omega), (by omega), f_a0_X9_2, (lv_sub hl [1, 2, 0] rfl), rfl⟩
set_option maxHeartbeats 4000000 in
set_option maxRecDepth 100000 in
theorem t_X1_readClause (l : Launch) (dC : Nat → ClassId) (dI : Nat → Nat → Nat) (tys : List (ClassId × FieldType)) (κ : tK) (B : Nat) (ws : va_W) (hT : Ty κ tys B ws) (aK aV : Nat → Nat) (a0 : Nat) (k_a0 : κ a0 = some 1) (a1 : Nat) (k_a1 : κ a1 = some 9) (a2 : Int32) (l_a2 : 0 ≤ a2.toInt) (h_a2 : a2.toInt ≤ 40) (sz : Nat) : Met l yX1_readClause (ws_u yX1_readClause cX1_readClause 5 none) ({ frames := 6, cells := 0, slots := 0, locals := 135 }) (va_Pc [.ref a0, .ref a1, .int a2] (cPreS (dC, dI) aK aV tys ws sz)) (va_Qv (fun (w : va_W) => Ty κ tys B w ∧ Sm [(0, 1), (0, 2), (0, 3), (0, 4), (0, 5), (9, 2), (9, 3)] [20, 21, 22, 23, 24, 25, 26, 27, 28, 29] κ ws w) (fun w t => cPost (dC, dI) tys w (va_A ws sz) t) (va_A ws sz)) 0 0 (va_A ws sz) := by
  refine Met.ofW (cc := cX1_readClause) (maxL := 5) (ret := none) (by decide) rfl ?_
  intro p e s m args below meth c s₁ B0 hml hv
  obtain ⟨rfl, ⟨hsz, hP, hK, hD0, hE⟩, hStr, hR⟩ := hv
  have hx := B0.exec
  have hb := B0.bytes
  have hr := B0.returns
  have hts0 := atoms_spec (ws := ws_u yX1_readClause cX1_readClause 5 none) B0.pre
  have hts : ∀ w ∈ gT, w.before _ s = true := fun w h => hts0 w (List.mem_cons_of_mem _ h)
  have hown : s.vm.findClass RX1 = some m.cls := findClass_of_methodNamed B0.named
  have hlocks := B0.notSynchronized
  subst hsz
  have hD := hD0.self (sz := s.heap.size)
  generalize hAe : va_A ws s.heap.size = A at hD hStr ⊢
  have hA : ∀ q : Nat, s.heap.size ≤ q → A q := fun q h => by rw [← hAe]; exact Or.inr h
  have hw : tW (dC, dI) tys κ B A s ws s.heap [] := ⟨hK, hP, hD, va_S.rf, hT⟩
  have hM : Sm [(0, 1), (0, 2), (0, 3), (0, 4), (0, 5), (9, 2), (9, 3)] [20, 21, 22, 23, 24, 25, 26, 27, 28, 29] κ ws ws := Sm.rf
  clear hP hK hD hD0 hts0
  have hl := lv_entry ([.ref a0, .ref a1, .int a2]) (n := 5) (Nat.le_of_ble_eq_true rfl)
  rw [lg_entry_eq]
  generalize (lg_sl ([.ref a0, .ref a1, .int a2]) ++ List.replicate (5 - (lg_sl ([.ref a0, .ref a1, .int a2])).length) Slot.unset).toArray = ls at hl ⊢
  have hl : lv_has ls 5 [(0, .ref a0), (1, .ref a1), (2, .int a2)] := hl
  refine t_start (fun QQ hQ => ?_)
  refine lv_aload_n hx hb dX1_readClause_0 rfl (lv_at hl 1 rfl) ?_
  refine t_geti (ci := 9) (C := RX9) (T := TX9) (N := 4) hx hb hts iX9 hown hw k_a1 rfl rfl rfl 2 (by decide) (hts _ tw_40) (fun _ h9 => h9) dX1_readClause_1 rfl (fun v1 l_v1 h_v1 f_a1_X9_2 => ?_)
  have l_v1 : 0 ≤ v1.toInt := l_v1
  have h_v1 : v1.toInt ≤ 400 := h_v1
  refine lv_istore_n (lv' := [(3, .int v1), (0, .ref a0), (1, .ref a1), (2, .int a2)]) hx hb dX1_readClause_4 rfl hl (by decide) rfl (fun ls hl => ?_)
  refine lv_aload_n hx hb dX1_readClause_5 rfl (lv_at hl 2 rfl) ?_
  refine va_ldcS hx hb hown hR.1 dX1_readClause_6 ?_
  refine t_calli (va_runV (As := [.ref (aK 0)]) (rest := []) ⟨hx, hb, hml, hown, hts⟩ (t_X9_takeWord l dC dI tys κ B ws hw.2.2.2.2 aK aV a1 k_a1 0 (by decide) s.heap.size) (cwV 1 hts (gUV tw_505 tw_506 tw_507 tw_2 tw_508) rfl rfl rfl (by decide +kernel) ⟨(Nat.le_of_ble_eq_true rfl), (Nat.le_of_ble_eq_true rfl)⟩) ⟨cPreS.blind, t_recv hw (ci := 9) k_a1 rfl rfl, cPreS.use hw.2.1 hw.1 hw.2.2.1 hE hStr hR hw.2.2.2.1 (hw.free hA)⟩ rfl rfl hl.1 rfl (lv_room (Nat.le_of_ble_eq_true rfl)) dX1_readClause_8 ⟨(Nat.le_of_ble_eq_true rfl), (Nat.le_of_ble_eq_true rfl)⟩) hw hA (fun _ _ h => h.1) (fun v8 w_1 H locs hp hw => ?_)
  obtain ⟨_, hm⟩ := hp
  have l_v8 := i32_lo v8
  have h_v8 := i32_hi v8
  have hM := hM.trans hm (by decide) (by decide)
  refine lv_istore (lv' := [(4, .int v8), (3, .int v1), (0, .ref a0), (1, .ref a1), (2, .int a2)]) hx hb dX1_readClause_11 hl (by decide) rfl (fun ls hl => ?_)
  refine lv_iload hx hb dX1_readClause_13 (lv_at hl 0 rfl) ?_
  refine lv_iconst (v := (-1)) hx hb dX1_readClause_15 (by decide) ?_
  refine lv_icmp_ne (tgt := 28) hx hb dX1_readClause_16 (by decide) (fun c_16 => ?_) (fun c_16 => ?_)
  · simp only [fa_lt, fa_le, fa_eq, li_m1] at c_16
    refine lv_iload_n hx hb dX1_readClause_28 rfl (lv_at hl 4 rfl) ?_
    refine lv_bipush (v := 40) hx hb dX1_readClause_29 (by decide) ?_
    have J65 : ∀ (H : Heap) (locs : List Loc) (ls : Array Slot) (w65 : va_W), tW (dC, dI) tys κ B A s w65 H locs → Sm [(0, 1), (0, 2), (0, 3), (0, 4), (0, 5), (9, 2), (9, 3)] [20, 21, 22, 23, 24, 25, 26, 27, 28, 29] κ ws w65 → lv_has ls 5 [(0, .ref a0), (1, .ref a1), (2, .int a2), (3, .int v1), (4, .int v8)] → W p l e (headSpec (ws_u yX1_readClause cX1_readClause 5 none) ({ frames := 6, cells := 0, slots := 0, locals := 135 })).room s m ([.ref a0, .ref a1, .int a2] : List Value).toArray below meth c H locs 0 0 QQ (F0 m 65 ls []) := by
      intro H locs ls w65 hw hM hl
      refine lv_aload_n hx hb dX1_readClause_65 rfl (lv_at hl 1 rfl) ?_
      refine lv_iload_n hx hb dX1_readClause_66 rfl (lv_at hl 3 rfl) ?_
      refine lv_iconst (v := 4) hx hb dX1_readClause_67 (by decide) ?_
      refine t_callv (va_runV (As := [.int v1, .int 4]) (rest := []) ⟨hx, hb, hml, hown, hts⟩ (t_X9_fail l dC dI tys κ B w65 hw.2.2.2.2 a1 k_a1 v1 (by omega) (by omega) 4 (by decide) (by decide) H.size) (cwV 2 hts (gUV tw_561 tw_562 tw_563 tw_2 tw_564) rfl rfl rfl (by decide +kernel) ⟨(Nat.le_of_ble_eq_true rfl), (Nat.le_of_ble_eq_true rfl)⟩) ⟨cPre.blind, t_recv hw (ci := 9) k_a1 rfl rfl, cPre.use hw.2.1 hw.1 hw.2.2.1 hE⟩ rfl rfl hl.1 rfl (lv_room (Nat.le_of_ble_eq_true rfl)) dX1_readClause_68 ⟨(Nat.le_of_ble_eq_true rfl), (Nat.le_of_ble_eq_true rfl)⟩) hw hA (fun _ h => h.1) (fun w_2 H locs hp hw => ?_)
      obtain ⟨_, hm, ⟨v68f, l_v68f, h_v68f, f_a1_X9_3⟩⟩ := hp
      have zc_4 := li_4
      have hM := hM.trans hm (by decide) (by decide)
      refine lv_goto (tgt := 81) hx hb dX1_readClause_71 (by decide) ?_
      rw [hQ]
      refine W.widen (k := 0) (n := 0) (Nat.le_refl _) (Nat.le_refl _) ?_
      exact W.vret hx hb hr (fun t ht hW => ⟨⟨w_2, rfl, ⟨hw.2.2.2.2, hM⟩, by rw [ht]; exact hw.2.1, va_K.moved hW.alike hw.1, hw.2.2.1⟩, hw.2.2.2.1.F ht⟩) hw.2.2.2.1.2.2 dX1_readClause_81
    refine lv_icmp_ge (tgt := 65) hx hb dX1_readClause_31 (by decide) (fun c_31 => ?_) (fun c_31 => ?_)
    · simp only [fa_lt, fa_le, fa_eq, li_40] at c_31
      exact J65 _ _ _ w_1 hw hM (lv_sub hl [2, 3, 4, 1, 0] rfl)
    · simp only [fa_lt, fa_le, fa_eq, li_40] at c_31
      refine lv_iload hx hb dX1_readClause_34 (lv_at hl 0 rfl) ?_
      have J44 : ∀ (H : Heap) (locs : List Loc) (ls : Array Slot) (w44 : va_W) (p44_s0 : Int32), tW (dC, dI) tys κ B A s w44 H locs → Sm [(0, 1), (0, 2), (0, 3), (0, 4), (0, 5), (9, 2), (9, 3)] [20, 21, 22, 23, 24, 25, 26, 27, 28, 29] κ ws w44 → 0 ≤ p44_s0.toInt → p44_s0.toInt ≤ 1 → lv_has ls 5 [(0, .ref a0), (1, .ref a1), (2, .int a2), (3, .int v1), (4, .int v8)] → W p l e (headSpec (ws_u yX1_readClause cX1_readClause 5 none) ({ frames := 6, cells := 0, slots := 0, locals := 135 })).room s m ([.ref a0, .ref a1, .int a2] : List Value).toArray below meth c H locs 0 0 QQ (F0 m 44 ls [.int p44_s0]) := by
        intro H locs ls w44 p44_s0 hw hM l_p44_s0 h_p44_s0 hl
        refine lv_iload_n hx hb dX1_readClause_44 rfl (lv_at hl 2 rfl) ?_
        have J53 : ∀ (H : Heap) (locs : List Loc) (ls : Array Slot) (w53 : va_W) (p53_s0 : Int32), tW (dC, dI) tys κ B A s w53 H locs → Sm [(0, 1), (0, 2), (0, 3), (0, 4), (0, 5), (9, 2), (9, 3)] [20, 21, 22, 23, 24, 25, 26, 27, 28, 29] κ ws w53 → 0 ≤ p53_s0.toInt → p53_s0.toInt ≤ 1 → lv_has ls 5 [(0, .ref a0), (1, .ref a1), (2, .int a2), (3, .int v1), (4, .int v8)] → W p l e (headSpec (ws_u yX1_readClause cX1_readClause 5 none) ({ frames := 6, cells := 0, slots := 0, locals := 135 })).room s m ([.ref a0, .ref a1, .int a2] : List Value).toArray below meth c H locs 0 0 QQ (F0 m 53 ls [.int p53_s0, .int p44_s0]) := by
          intro H locs ls w53 p53_s0 hw hM l_p53_s0 h_p53_s0 hl
          refine lv_icmp_ne (tgt := 65) hx hb dX1_readClause_53 (by decide) (fun c_53 => ?_) (fun c_53 => ?_)
          · simp only [fa_lt, fa_le, fa_eq] at c_53
            exact J65 _ _ _ w53 hw hM (lv_sub hl [0, 1, 2, 3, 4] rfl)
          · simp only [fa_lt, fa_le, fa_eq] at c_53
            refine lv_aload_n hx hb dX1_readClause_56 rfl (lv_at hl 0 rfl) ?_
            refine lv_iload hx hb dX1_readClause_57 (lv_at hl 4 rfl) ?_
            obtain ⟨u_v59q0, q_v59q0, f_a0_X1_0⟩ := t_peek (k := 0) hw.2.2.2.2 k_a0 rfl (by decide)
            obtain ⟨v59q0, rfl, k_v59q0⟩ := q_v59q0.getr (k := 0) rfl
            obtain ⟨u_v59q1, q_v59q1, f_v59q0_X0_3⟩ := t_peek (k := 3) hw.2.2.2.2 k_v59q0 rfl (by decide)
            obtain ⟨v59q1, rfl, l_v59q1, h_v59q1⟩ := q_v59q1.geti (lo := 0) (hi := 6) rfl
            obtain ⟨u_v59q2, q_v59q2, f_v59q0_X0_4⟩ := t_peek (k := 4) hw.2.2.2.2 k_v59q0 rfl (by decide)
            obtain ⟨v59q2, rfl, l_v59q2, h_v59q2⟩ := q_v59q2.geti (lo := 0) (hi := 4) rfl
            obtain ⟨u_v59q3, q_v59q3, f_v59q0_X0_5⟩ := t_peek (k := 5) hw.2.2.2.2 k_v59q0 rfl (by decide)
            obtain ⟨v59q3, rfl, l_v59q3, h_v59q3⟩ := q_v59q3.geti (lo := 0) (hi := 6) rfl
            refine t_calli (va_runV (As := [.int v8]) (rest := []) ⟨hx, hb, hml, hown, hts⟩ (t_X1_isFull l dC dI tys κ B w53 hw.2.2.2.2 a0 k_a0 v8 v59q0 k_v59q0 f_a0_X1_0 v59q1 (by omega) (by omega) f_v59q0_X0_3 v59q2 (by omega) (by omega) f_v59q0_X0_4 v59q3 (by omega) (by omega) f_v59q0_X0_5 H.size) (cwV 1 hts (gUV tw_565 tw_567 ts_0_3 tw_3 tw_568) rfl rfl rfl (by decide +kernel) ⟨(Nat.le_of_ble_eq_true rfl), (Nat.le_of_ble_eq_true rfl)⟩) ⟨cPre.blind, t_recv hw (ci := 1) k_a0 rfl rfl, cPre.use hw.2.1 hw.1 hw.2.2.1 hE⟩ rfl rfl hl.1 rfl (lv_room (Nat.le_of_ble_eq_true rfl)) dX1_readClause_59 ⟨(Nat.le_of_ble_eq_true rfl), (Nat.le_of_ble_eq_true rfl)⟩) hw hA (fun _ _ h => h.2.2.1) (fun v59 w_3 H locs hp hw => ?_)
            obtain ⟨l_v59, h_v59, _, hm, x_v59_0, x_v59_1⟩ := hp
            have hM := hM.trans hm (by decide) (by decide)
            have f_a0_X1_0 := hm.1 _ _ _ _ f_a0_X1_0 (by decide)
            have f_v59q0_X0_3 := hm.1 _ _ _ _ f_v59q0_X0_3 (by decide)
            have f_v59q0_X0_4 := hm.1 _ _ _ _ f_v59q0_X0_4 (by decide)
            have f_v59q0_X0_5 := hm.1 _ _ _ _ f_v59q0_X0_5 (by decide)
            refine lv_if_eq (tgt := 74) hx hb dX1_readClause_62 (by decide) (fun c_62 => ?_) (fun c_62 => ?_)
            · simp only [fa_lt, fa_le, fa_eq, li_0] at c_62
              refine lv_aload_n hx hb dX1_readClause_74 rfl (lv_at hl 0 rfl) ?_
              refine lv_aload_n hx hb dX1_readClause_75 rfl (lv_at hl 1 rfl) ?_
              refine lv_iload hx hb dX1_readClause_76 (lv_at hl 4 rfl) ?_
              refine t_callv (va_runV (As := [.ref a1, .int v8]) (rest := []) ⟨hx, hb, hml, hown, hts⟩ (t_X1_readNumbers l dC dI tys κ B w_3 hw.2.2.2.2 a0 k_a0 a1 k_a1 v8 v59q0 k_v59q0 f_a0_X1_0 v59q1 (by omega) (by omega) f_v59q0_X0_3 v59q2 (by omega) (by omega) f_v59q0_X0_4 v59q3 (by omega) (by omega) f_v59q0_X0_5 (by omega) H.size) (cwV 2 hts (gUV tw_569 tw_571 ts_0_4 tw_3 tw_572) rfl rfl rfl (by decide +kernel) ⟨(Nat.le_of_ble_eq_true rfl), (Nat.le_of_ble_eq_true rfl)⟩) ⟨cPre.blind, t_recv hw (ci := 1) k_a0 rfl rfl, cPre.use hw.2.1 hw.1 hw.2.2.1 hE⟩ rfl rfl hl.1 rfl (lv_room (Nat.le_of_ble_eq_true rfl)) dX1_readClause_78 ⟨(Nat.le_of_ble_eq_true rfl), (Nat.le_of_ble_eq_true rfl)⟩) hw hA (fun _ h => h.1) (fun w_4 H locs hp hw => ?_)
              obtain ⟨_, hm⟩ := hp
              have hM := hM.trans hm (by decide) (by decide)
              have f_a0_X1_0 := hm.1 _ _ _ _ f_a0_X1_0 (by decide)
              rw [hQ]
              refine W.widen (k := 0) (n := 0) (Nat.le_refl _) (Nat.le_refl _) ?_
              exact W.vret hx hb hr (fun t ht hW => ⟨⟨w_4, rfl, ⟨hw.2.2.2.2, hM⟩, by rw [ht]; exact hw.2.1, va_K.moved hW.alike hw.1, hw.2.2.1⟩, hw.2.2.2.1.F ht⟩) hw.2.2.2.1.2.2 dX1_readClause_81
            · simp only [fa_lt, fa_le, fa_eq, li_0] at c_62
              exact J65 _ _ _ w_3 hw hM (lv_sub hl [0, 1, 2, 3, 4] rfl)
        refine lv_if_ne (tgt := 52) hx hb dX1_readClause_45 (by decide) (fun c_45 => ?_) (fun c_45 => ?_)
        · simp only [fa_lt, fa_le, fa_eq, li_0] at c_45
          refine lv_iconst (v := 0) hx hb dX1_readClause_52 (by decide) ?_
          exact J53 _ _ _ w44 0 hw hM (by decide) (by decide) (lv_sub hl [0, 1, 2, 3, 4] rfl)
        · simp only [fa_lt, fa_le, fa_eq, li_0] at c_45
          refine lv_iconst (v := 1) hx hb dX1_readClause_48 (by decide) ?_
          refine lv_goto (tgt := 53) hx hb dX1_readClause_49 (by decide) ?_
          exact J53 _ _ _ w44 1 hw hM (by decide) (by decide) (lv_sub hl [0, 1, 2, 3, 4] rfl)
      refine lv_if_ne (tgt := 43) hx hb dX1_readClause_36 (by decide) (fun c_36 => ?_) (fun c_36 => ?_)
      · simp only [fa_lt, fa_le, fa_eq, li_0] at c_36
        refine lv_iconst (v := 0) hx hb dX1_readClause_43 (by decide) ?_
        exact J44 _ _ _ w_1 0 hw hM (by decide) (by decide) (lv_sub hl [2, 3, 4, 1, 0] rfl)
      · simp only [fa_lt, fa_le, fa_eq, li_0] at c_36
        refine lv_iconst (v := 1) hx hb dX1_readClause_39 (by decide) ?_
        refine lv_goto (tgt := 44) hx hb dX1_readClause_40 (by decide) ?_
        exact J44 _ _ _ w_1 1 hw hM (by decide) (by decide) (lv_sub hl [2, 3, 4, 1, 0] rfl)
  · simp only [fa_lt, fa_le, fa_eq, li_m1] at c_16
    refine lv_aload_n hx hb dX1_readClause_19 rfl (lv_at hl 3 rfl) ?_
    refine lv_iload_n hx hb dX1_readClause_20 rfl (lv_at hl 1 rfl) ?_
    refine lv_iconst (v := 0) hx hb dX1_readClause_21 (by decide) ?_
    refine t_callv (va_runV (As := [.int v1, .int 0]) (rest := []) ⟨hx, hb, hml, hown, hts⟩ (t_X9_fail l dC dI tys κ B w_1 hw.2.2.2.2 a1 k_a1 v1 (by omega) (by omega) 0 (by decide) (by decide) H.size) (cwV 2 hts (gUV tw_561 tw_562 tw_563 tw_2 tw_564) rfl rfl rfl (by decide +kernel) ⟨(Nat.le_of_ble_eq_true rfl), (Nat.le_of_ble_eq_true rfl)⟩) ⟨cPre.blind, t_recv hw (ci := 9) k_a1 rfl rfl, cPre.use hw.2.1 hw.1 hw.2.2.1 hE⟩ rfl rfl hl.1 rfl (lv_room (Nat.le_of_ble_eq_true rfl)) dX1_readClause_22 ⟨(Nat.le_of_ble_eq_true rfl), (Nat.le_of_ble_eq_true rfl)⟩) hw hA (fun _ h => h.1) (fun w_5 H locs hp hw => ?_)
    obtain ⟨_, hm, ⟨v22f, l_v22f, h_v22f, f_a1_X9_3⟩⟩ := hp
    have zc_0 := li_0
    have hM := hM.trans hm (by decide) (by decide)
    refine lv_goto (tgt := 81) hx hb dX1_readClause_25 (by decide) ?_
    rw [hQ]
    refine W.widen (k := 0) (n := 0) (Nat.le_refl _) (Nat.le_refl _) ?_
    exact W.vret hx hb hr (fun t ht hW => ⟨⟨w_5, rfl, ⟨hw.2.2.2.2, hM⟩, by rw [ht]; exact hw.2.1, va_K.moved hW.alike hw.1, hw.2.2.1⟩, hw.2.2.2.1.F ht⟩) hw.2.2.2.1.2.2 dX1_readClause_81
set_option maxHeartbeats 4000000 in
set_option maxRecDepth 100000 in
theorem t_X9_atEnd (l : Launch) (dC : Nat → ClassId) (dI : Nat → Nat → Nat) (tys : List (ClassId × FieldType)) (κ : tK) (B : Nat) (ws : va_W) (hT : Ty κ tys B ws) (a0 : Nat) (k_a0 : κ a0 = some 9) (sz : Nat) : Met l yX9_atEnd (ws_u yX9_atEnd cX9_atEnd 1 (some .boolean)) ({ frames := 0, cells := 0, slots := 0, locals := 0 }) (va_Pc [.ref a0] (cPre (dC, dI) tys ws sz)) (va_Qi (fun (r : Int32) (w : va_W) => 0 ≤ r.toInt ∧ r.toInt ≤ 1 ∧ Ty κ tys B w ∧ Sm [] [] κ ws w) (fun w t => cPost (dC, dI) tys w (va_A ws sz) t) (va_A ws sz)) 0 0 (va_A ws sz) := by
  refine Met.ofW (cc := cX9_atEnd) (maxL := 1) (ret := (some .boolean)) (by decide) rfl ?_
  intro p e s m args below meth c s₁ B0 hml hv
  obtain ⟨rfl, hsz, hP, hK, hD0, hE⟩ := hv
  have hx := B0.exec
  have hb := B0.bytes
  have hr := B0.returns
  have hts0 := atoms_spec (ws := ws_u yX9_atEnd cX9_atEnd 1 (some .boolean)) B0.pre
  have hts : ∀ w ∈ gT, w.before _ s = true := fun w h => hts0 w (List.mem_cons_of_mem _ h)
  have hown : s.vm.findClass RX9 = some m.cls := findClass_of_methodNamed B0.named
  have hlocks := B0.notSynchronized
  subst hsz
  have hD := hD0.self (sz := s.heap.size)
  generalize hAe : va_A ws s.heap.size = A at hD ⊢
  have hA : ∀ q : Nat, s.heap.size ≤ q → A q := fun q h => by rw [← hAe]; exact Or.inr h
  have hw : tW (dC, dI) tys κ B A s ws s.heap [] := ⟨hK, hP, hD, va_S.rf, hT⟩
  have hM : Sm [] [] κ ws ws := Sm.rf
  clear hP hK hD hD0 hts0
  have hl := lv_entry ([.ref a0]) (n := 1) (Nat.le_of_ble_eq_true rfl)
  rw [lg_entry_eq]
  generalize (lg_sl ([.ref a0]) ++ List.replicate (1 - (lg_sl ([.ref a0])).length) Slot.unset).toArray = ls at hl ⊢
  have hl : lv_has ls 1 [(0, .ref a0)] := hl
  refine t_start (fun QQ hQ => ?_)
  refine lv_aload_n hx hb dX9_atEnd_0 rfl (lv_at hl 0 rfl) ?_
  refine t_geti (ci := 9) (C := RX9) (T := TX9) (N := 4) hx hb hts iX9 hown hw k_a0 rfl rfl rfl 2 (by decide) (hts _ tw_41) (fun _ h9 => h9) dX9_atEnd_1 rfl (fun v1 l_v1 h_v1 f_a0_X9_2 => ?_)
  have l_v1 : 0 ≤ v1.toInt := l_v1
  have h_v1 : v1.toInt ≤ 400 := h_v1
  refine lv_aload_n hx hb dX9_atEnd_4 rfl (lv_at hl 0 rfl) ?_
  refine t_geti (ci := 9) (C := RX9) (T := TX9) (N := 4) hx hb hts iX9 hown hw k_a0 rfl rfl rfl 1 (by decide) (hts _ tw_37) (fun _ h9 => h9) dX9_atEnd_5 rfl (fun v5 l_v5 h_v5 f_a0_X9_1 => ?_)
  have l_v5 : 0 ≤ v5.toInt := l_v5
  have h_v5 : v5.toInt ≤ 400 := h_v5
  refine lv_icmp_lt (tgt := 15) hx hb dX9_atEnd_8 (by decide) (fun c_8 => ?_) (fun c_8 => ?_)
  · simp only [fa_lt, fa_le, fa_eq] at c_8
    refine lv_iconst (v := 0) hx hb dX9_atEnd_15 (by decide) ?_
    rw [hQ]
    refine W.widen (k := 0) (n := 0) (Nat.le_refl _) (Nat.le_refl _) ?_
    exact W.zret (v := 0) hx hb hr rfl (fun t ht hW => ⟨⟨0, ws, rfl, ⟨(by decide), (by decide), hw.2.2.2.2, hM⟩, by rw [ht]; exact hw.2.1, va_K.moved hW.alike hw.1, hw.2.2.1⟩, hw.2.2.2.1.F ht⟩) hw.2.2.2.1.2.2 dX9_atEnd_16
  · simp only [fa_lt, fa_le, fa_eq] at c_8
    refine lv_iconst (v := 1) hx hb dX9_atEnd_11 (by decide) ?_
    refine lv_goto (tgt := 16) hx hb dX9_atEnd_12 (by decide) ?_
    rw [hQ]
    refine W.widen (k := 0) (n := 0) (Nat.le_refl _) (Nat.le_refl _) ?_
    exact W.zret (v := 1) hx hb hr rfl (fun t ht hW => ⟨⟨1, ws, rfl, ⟨(by decide), (by decide), hw.2.2.2.2, hM⟩, by rw [ht]; exact hw.2.1, va_K.moved hW.alike hw.1, hw.2.2.1⟩, hw.2.2.2.1.F ht⟩) hw.2.2.2.1.2.2 dX9_atEnd_16
set_option maxHeartbeats 4000000 in
set_option maxRecDepth 100000 in
theorem t_X9_startReading (l : Launch) (dC : Nat → ClassId) (dI : Nat → Nat → Nat) (tys : List (ClassId × FieldType)) (κ : tK) (B : Nat) (ws : va_W) (hT : Ty κ tys B ws) (a0 : Nat) (k_a0 : κ a0 = some 9) (sz : Nat) : Met l yX9_startReading (ws_u yX9_startReading cX9_startReading 1 none) ({ frames := 1, cells := 0, slots := 0, locals := 21 }) (va_Pc [.ref a0] (cPre (dC, dI) tys ws sz)) (va_Qv (fun (w : va_W) => Ty κ tys B w ∧ Sm [(9, 2), (9, 3)] [] κ ws w) (fun w t => cPost (dC, dI) tys w (va_A ws sz) t) (va_A ws sz)) 0 0 (va_A ws sz) := by
  refine Met.ofW (cc := cX9_startReading) (maxL := 1) (ret := none) (by decide) rfl ?_
  intro p e s m args below meth c s₁ B0 hml hv
  obtain ⟨rfl, hsz, hP, hK, hD0, hE⟩ := hv
  have hx := B0.exec
  have hb := B0.bytes
  have hr := B0.returns
  have hts0 := atoms_spec (ws := ws_u yX9_startReading cX9_startReading 1 none) B0.pre
  have hts : ∀ w ∈ gT, w.before _ s = true := fun w h => hts0 w (List.mem_cons_of_mem _ h)
  have hown : s.vm.findClass RX9 = some m.cls := findClass_of_methodNamed B0.named
  have hlocks := B0.notSynchronized
  subst hsz
  have hD := hD0.self (sz := s.heap.size)
  generalize hAe : va_A ws s.heap.size = A at hD ⊢
  have hA : ∀ q : Nat, s.heap.size ≤ q → A q := fun q h => by rw [← hAe]; exact Or.inr h
  have hw : tW (dC, dI) tys κ B A s ws s.heap [] := ⟨hK, hP, hD, va_S.rf, hT⟩
  have hM : Sm [(9, 2), (9, 3)] [] κ ws ws := Sm.rf
  clear hP hK hD hD0 hts0
  have hl := lv_entry ([.ref a0]) (n := 1) (Nat.le_of_ble_eq_true rfl)
  rw [lg_entry_eq]
  generalize (lg_sl ([.ref a0]) ++ List.replicate (1 - (lg_sl ([.ref a0])).length) Slot.unset).toArray = ls at hl ⊢
  have hl : lv_has ls 1 [(0, .ref a0)] := hl
  refine t_start (fun QQ hQ => ?_)
  refine lv_aload_n hx hb dX9_startReading_0 rfl (lv_at hl 0 rfl) ?_
  refine lv_iconst (v := 0) hx hb dX9_startReading_1 (by decide) ?_
  refine t_put (ci := 9) (C := RX9) (T := TX9) (N := 4) (v := .int 0) hx hb hts iX9 tyX9 tyX9_ok nmX9 hown hw k_a0 rfl rfl rfl 3 (by decide) (hts _ tw_44) (fun _ h9 => h9) rfl (tyX9_ok 3 (by decide)) rfl rfl (okV.int rfl (by decide) (by decide)) dX9_startReading_2 (fun w_1 H locs hw u => ?_)
  have hM := hM.up1 u (by decide)
  have f_a0_X9_3 := u.2.2
  refine lv_aload_n hx hb dX9_startReading_5 rfl (lv_at hl 0 rfl) ?_
  refine lv_iconst (v := 0) hx hb dX9_startReading_6 (by decide) ?_
  refine t_callv (va_runV (As := [.int 0]) (rest := []) ⟨hx, hb, hml, hown, hts⟩ (t_X9_moveTo l dC dI tys κ B w_1 hw.2.2.2.2 a0 k_a0 0 (by decide) (by decide) H.size) (cwV 1 hts (gUV tw_496 tw_498 ts_0_0 tw_2 tw_499) rfl rfl rfl (by decide +kernel) ⟨(Nat.le_of_ble_eq_true rfl), (Nat.le_of_ble_eq_true rfl)⟩) ⟨cPre.blind, t_recv hw (ci := 9) k_a0 rfl rfl, cPre.use hw.2.1 hw.1 hw.2.2.1 hE⟩ rfl rfl hl.1 rfl (lv_room (Nat.le_of_ble_eq_true rfl)) dX9_startReading_7 ⟨(Nat.le_of_ble_eq_true rfl), (Nat.le_of_ble_eq_true rfl)⟩) hw hA (fun _ h => h.1) (fun w_2 H locs hp hw => ?_)
  obtain ⟨_, hm⟩ := hp
  have hM := hM.trans hm (by decide) (by decide)
  have f_a0_X9_3 := hm.1 _ _ _ _ f_a0_X9_3 (by decide)
  rw [hQ]
  refine W.widen (k := 0) (n := 0) (Nat.le_refl _) (Nat.le_refl _) ?_
  exact W.vret hx hb hr (fun t ht hW => ⟨⟨w_2, rfl, ⟨hw.2.2.2.2, hM⟩, by rw [ht]; exact hw.2.1, va_K.moved hW.alike hw.1, hw.2.2.1⟩, hw.2.2.2.1.F ht⟩) hw.2.2.2.1.2.2 dX9_startReading_10
set_option maxHeartbeats 4000000 in
set_option maxRecDepth 100000 in
theorem t_X9_stands (l : Launch) (dC : Nat → ClassId) (dI : Nat → Nat → Nat) (tys : List (ClassId × FieldType)) (κ : tK) (B : Nat) (ws : va_W) (hT : Ty κ tys B ws) (a0 : Nat) (k_a0 : κ a0 = some 9) (a1 : Int32) (l_a1 : 0 ≤ a1.toInt) (h_a1 : a1.toInt ≤ 400) (a2 : Int32) (l_a2 : 37 ≤ a2.toInt) (h_a2 : a2.toInt ≤ 93) (sz : Nat) : Met l yX9_stands (ws_u yX9_stands cX9_stands 3 (some .boolean)) ({ frames := 0, cells := 0, slots := 0, locals := 0 }) (va_Pc [.ref a0, .int a1, .int a2] (cPre (dC, dI) tys ws sz)) (va_Qi (fun (r : Int32) (w : va_W) => 0 ≤ r.toInt ∧ r.toInt ≤ 1 ∧ Ty κ tys B w ∧ Sm [] [] κ ws w ∧ (r.toInt = 0 ∨ a1.toInt ≤ 399)) (fun w t => cPost (dC, dI) tys w (va_A ws sz) t) (va_A ws sz)) 0 0 (va_A ws sz) := by
  refine Met.ofW (cc := cX9_stands) (maxL := 3) (ret := (some .boolean)) (by decide) rfl ?_
  intro p e s m args below meth c s₁ B0 hml hv
  obtain ⟨rfl, hsz, hP, hK, hD0, hE⟩ := hv
  have hx := B0.exec
  have hb := B0.bytes
  have hr := B0.returns
  have hts0 := atoms_spec (ws := ws_u yX9_stands cX9_stands 3 (some .boolean)) B0.pre
  have hts : ∀ w ∈ gT, w.before _ s = true := fun w h => hts0 w (List.mem_cons_of_mem _ h)
  have hown : s.vm.findClass RX9 = some m.cls := findClass_of_methodNamed B0.named
  have hlocks := B0.notSynchronized
  subst hsz
  have hD := hD0.self (sz := s.heap.size)
  generalize hAe : va_A ws s.heap.size = A at hD ⊢
  have hA : ∀ q : Nat, s.heap.size ≤ q → A q := fun q h => by rw [← hAe]; exact Or.inr h
  have hw : tW (dC, dI) tys κ B A s ws s.heap [] := ⟨hK, hP, hD, va_S.rf, hT⟩
  have hM : Sm [] [] κ ws ws := Sm.rf
  clear hP hK hD hD0 hts0
  have hl := lv_entry ([.ref a0, .int a1, .int a2]) (n := 3) (Nat.le_of_ble_eq_true rfl)
  rw [lg_entry_eq]
  generalize (lg_sl ([.ref a0, .int a1, .int a2]) ++ List.replicate (3 - (lg_sl ([.ref a0, .int a1, .int a2])).length) Slot.unset).toArray = ls at hl ⊢
  have hl : lv_has ls 3 [(0, .ref a0), (1, .int a1), (2, .int a2)] := hl
  refine t_start (fun QQ hQ => ?_)
  refine lv_aload_n hx hb dX9_stands_0 rfl (lv_at hl 0 rfl) ?_
  refine t_geti (ci := 9) (C := RX9) (T := TX9) (N := 4) hx hb hts iX9 hown hw k_a0 rfl rfl rfl 3 (by decide) (hts _ tw_44) (fun _ h9 => h9) dX9_stands_1 rfl (fun v1 l_v1 h_v1 f_a0_X9_3 => ?_)
  have l_v1 : 0 ≤ v1.toInt := l_v1
  have h_v1 : v1.toInt ≤ 3205 := h_v1
  refine lv_if_ne (tgt := 29) hx hb dX9_stands_4 (by decide) (fun c_4 => ?_) (fun c_4 => ?_)
  · simp only [fa_lt, fa_le, fa_eq, li_0] at c_4
    refine lv_iconst (v := 0) hx hb dX9_stands_29 (by decide) ?_
    rw [hQ]
    refine W.widen (k := 0) (n := 0) (Nat.le_refl _) (Nat.le_refl _) ?_
    exact W.zret (v := 0) hx hb hr rfl (fun t ht hW => ⟨⟨0, ws, rfl, ⟨(by decide), (by decide), hw.2.2.2.2, hM, (by have := li_0; omega)⟩, by rw [ht]; exact hw.2.1, va_K.moved hW.alike hw.1, hw.2.2.1⟩, hw.2.2.2.1.F ht⟩) hw.2.2.2.1.2.2 dX9_stands_30
  · simp only [fa_lt, fa_le, fa_eq, li_0] at c_4
    refine lv_iload_n hx hb dX9_stands_7 rfl (lv_at hl 1 rfl) ?_
    refine lv_aload_n hx hb dX9_stands_8 rfl (lv_at hl 0 rfl) ?_
    refine t_geti (ci := 9) (C := RX9) (T := TX9) (N := 4) hx hb hts iX9 hown hw k_a0 rfl rfl rfl 1 (by decide) (hts _ tw_37) (fun _ h9 => h9) dX9_stands_9 rfl (fun v9 l_v9 h_v9 f_a0_X9_1 => ?_)
    have l_v9 : 0 ≤ v9.toInt := l_v9
    have h_v9 : v9.toInt ≤ 400 := h_v9
    refine lv_icmp_ge (tgt := 29) hx hb dX9_stands_12 (by decide) (fun c_12 => ?_) (fun c_12 => ?_)
    · simp only [fa_lt, fa_le, fa_eq] at c_12
      refine lv_iconst (v := 0) hx hb dX9_stands_29 (by decide) ?_
      rw [hQ]
      refine W.widen (k := 0) (n := 0) (Nat.le_refl _) (Nat.le_refl _) ?_
      exact W.zret (v := 0) hx hb hr rfl (fun t ht hW => ⟨⟨0, ws, rfl, ⟨(by decide), (by decide), hw.2.2.2.2, hM, (by have := li_0; omega)⟩, by rw [ht]; exact hw.2.1, va_K.moved hW.alike hw.1, hw.2.2.1⟩, hw.2.2.2.1.F ht⟩) hw.2.2.2.1.2.2 dX9_stands_30
    · simp only [fa_lt, fa_le, fa_eq] at c_12
      refine lv_aload_n hx hb dX9_stands_15 rfl (lv_at hl 0 rfl) ?_
      refine t_getr (k1 := 49) (ci := 9) (C := RX9) (T := TX9) (N := 4) hx hb hts iX9 hown hw k_a0 rfl rfl rfl 0 (by decide) (hts _ tw_36) (fun _ h9 => h9) dX9_stands_16 rfl (fun v16 k_v16 f_a0_X9_0 => ?_)
      refine lv_iload_n hx hb dX9_stands_19 rfl (lv_at hl 1 rfl) ?_
      refine t_bald hx hb hw k_v16 rfl rfl (by omega) (show a1.toInt < 400 by omega) dX9_stands_20 (fun v20 r_v20 s_v20 q_v20 => ?_)
      have l_v20 := i32_lo v20
      have h_v20 := i32_hi v20
      refine lv_iload_n hx hb dX9_stands_21 rfl (lv_at hl 2 rfl) ?_
      refine lv_icmp_ne (tgt := 29) hx hb dX9_stands_22 (by decide) (fun c_22 => ?_) (fun c_22 => ?_)
      · simp only [fa_lt, fa_le, fa_eq] at c_22
        refine lv_iconst (v := 0) hx hb dX9_stands_29 (by decide) ?_
        rw [hQ]
        refine W.widen (k := 0) (n := 0) (Nat.le_refl _) (Nat.le_refl _) ?_
        exact W.zret (v := 0) hx hb hr rfl (fun t ht hW => ⟨⟨0, ws, rfl, ⟨(by decide), (by decide), hw.2.2.2.2, hM, (by have := li_0; omega)⟩, by rw [ht]; exact hw.2.1, va_K.moved hW.alike hw.1, hw.2.2.1⟩, hw.2.2.2.1.F ht⟩) hw.2.2.2.1.2.2 dX9_stands_30
      · simp only [fa_lt, fa_le, fa_eq] at c_22
        refine lv_iconst (v := 1) hx hb dX9_stands_25 (by decide) ?_
        refine lv_goto (tgt := 30) hx hb dX9_stands_26 (by decide) ?_
        rw [hQ]
        refine W.widen (k := 0) (n := 0) (Nat.le_refl _) (Nat.le_refl _) ?_
        exact W.zret (v := 1) hx hb hr rfl (fun t ht hW => ⟨⟨1, ws, rfl, ⟨(by decide), (by decide), hw.2.2.2.2, hM, (by have := li_1; omega)⟩, by rw [ht]; exact hw.2.1, va_K.moved hW.alike hw.1, hw.2.2.1⟩, hw.2.2.2.1.F ht⟩) hw.2.2.2.1.2.2 dX9_stands_30
set_option maxHeartbeats 4000000 in
set_option maxRecDepth 100000 in
theorem t_X9_takeSign (l : Launch) (dC : Nat → ClassId) (dI : Nat → Nat → Nat) (tys : List (ClassId × FieldType)) (κ : tK) (B : Nat) (ws : va_W) (hT : Ty κ tys B ws) (a0 : Nat) (k_a0 : κ a0 = some 9) (a1 : Int32) (l_a1 : 37 ≤ a1.toInt) (h_a1 : a1.toInt ≤ 93) (sz : Nat) : Met l yX9_takeSign (ws_u yX9_takeSign cX9_takeSign 3 (some .boolean)) ({ frames := 1, cells := 0, slots := 0, locals := 22 }) (va_Pc [.ref a0, .int a1] (cPre (dC, dI) tys ws sz)) (va_Qi (fun (r : Int32) (w : va_W) => 0 ≤ r.toInt ∧ r.toInt ≤ 1 ∧ Ty κ tys B w ∧ Sm [(9, 2)] [] κ ws w) (fun w t => cPost (dC, dI) tys w (va_A ws sz) t) (va_A ws sz)) 0 0 (va_A ws sz) := by
  refine Met.ofW (cc := cX9_takeSign) (maxL := 3) (ret := (some .boolean)) (by decide) rfl ?_
  intro p e s m args below meth c s₁ B0 hml hv
  obtain ⟨rfl, hsz, hP, hK, hD0, hE⟩ := hv
  have hx := B0.exec
  have hb := B0.bytes
  have hr := B0.returns
  have hts0 := atoms_spec (ws := ws_u yX9_takeSign cX9_takeSign 3 (some .boolean)) B0.pre
  have hts : ∀ w ∈ gT, w.before _ s = true := fun w h => hts0 w (List.mem_cons_of_mem _ h)
  have hown : s.vm.findClass RX9 = some m.cls := findClass_of_methodNamed B0.named
  have hlocks := B0.notSynchronized
  subst hsz
  have hD := hD0.self (sz := s.heap.size)
  generalize hAe : va_A ws s.heap.size = A at hD ⊢
  have hA : ∀ q : Nat, s.heap.size ≤ q → A q := fun q h => by rw [← hAe]; exact Or.inr h
  have hw : tW (dC, dI) tys κ B A s ws s.heap [] := ⟨hK, hP, hD, va_S.rf, hT⟩
  have hM : Sm [(9, 2)] [] κ ws ws := Sm.rf
  clear hP hK hD hD0 hts0
  have hl := lv_entry ([.ref a0, .int a1]) (n := 3) (Nat.le_of_ble_eq_true rfl)
  rw [lg_entry_eq]
  generalize (lg_sl ([.ref a0, .int a1]) ++ List.replicate (3 - (lg_sl ([.ref a0, .int a1])).length) Slot.unset).toArray = ls at hl ⊢
  have hl : lv_has ls 3 [(0, .ref a0), (1, .int a1)] := hl
  refine t_start (fun QQ hQ => ?_)
  refine lv_aload_n hx hb dX9_takeSign_0 rfl (lv_at hl 0 rfl) ?_
  refine lv_aload_n hx hb dX9_takeSign_1 rfl (lv_at hl 0 rfl) ?_
  refine t_geti (ci := 9) (C := RX9) (T := TX9) (N := 4) hx hb hts iX9 hown hw k_a0 rfl rfl rfl 2 (by decide) (hts _ tw_41) (fun _ h9 => h9) dX9_takeSign_2 rfl (fun v2 l_v2 h_v2 f_a0_X9_2 => ?_)
  have l_v2 : 0 ≤ v2.toInt := l_v2
  have h_v2 : v2.toInt ≤ 400 := h_v2
  refine lv_iload_n hx hb dX9_takeSign_5 rfl (lv_at hl 1 rfl) ?_
  refine t_calli (va_runV (As := [.int v2, .int a1]) (rest := []) ⟨hx, hb, hml, hown, hts⟩ (t_X9_stands l dC dI tys κ B ws hw.2.2.2.2 a0 k_a0 v2 (by omega) (by omega) a1 (by omega) (by omega) s.heap.size) (cwV 2 hts (gUV tw_606 tw_608 ts_0_7 tw_2 tw_609) rfl rfl rfl (by decide +kernel) ⟨(Nat.le_of_ble_eq_true rfl), (Nat.le_of_ble_eq_true rfl)⟩) ⟨cPre.blind, t_recv hw (ci := 9) k_a0 rfl rfl, cPre.use hw.2.1 hw.1 hw.2.2.1 hE⟩ rfl rfl hl.1 rfl (lv_room (Nat.le_of_ble_eq_true rfl)) dX9_takeSign_6 ⟨(Nat.le_of_ble_eq_true rfl), (Nat.le_of_ble_eq_true rfl)⟩) hw hA (fun _ _ h => h.2.2.1) (fun v6 w_1 H locs hp hw => ?_)
  obtain ⟨l_v6, h_v6, _, hm, x_v6_0⟩ := hp
  have hM := hM.trans hm (by decide) (by decide)
  have f_a0_X9_2 := hm.1 _ _ _ _ f_a0_X9_2 (by decide)
  refine lv_istore_n (lv' := [(2, .int v6), (0, .ref a0), (1, .int a1)]) hx hb dX9_takeSign_9 rfl hl (by decide) rfl (fun ls hl => ?_)
  refine lv_iload_n hx hb dX9_takeSign_10 rfl (lv_at hl 0 rfl) ?_
  have J24 : ∀ (H : Heap) (locs : List Loc) (ls : Array Slot) (w24 : va_W), tW (dC, dI) tys κ B A s w24 H locs → Sm [(9, 2)] [] κ ws w24 → lv_has ls 3 [(0, .ref a0), (1, .int a1), (2, .int v6)] → W p l e (headSpec (ws_u yX9_takeSign cX9_takeSign 3 (some .boolean)) ({ frames := 1, cells := 0, slots := 0, locals := 22 })).room s m ([.ref a0, .int a1] : List Value).toArray below meth c H locs 0 0 QQ (F0 m 24 ls []) := by
    intro H locs ls w24 hw hM hl
    refine lv_iload_n hx hb dX9_takeSign_24 rfl (lv_at hl 2 rfl) ?_
    rw [hQ]
    refine W.widen (k := 0) (n := 0) (Nat.le_refl _) (Nat.le_refl _) ?_
    exact W.zret (v := v6) hx hb hr (nb_i (by omega) (by omega)) (fun t ht hW => ⟨⟨v6, w24, rfl, ⟨(by omega), (by omega), hw.2.2.2.2, hM⟩, by rw [ht]; exact hw.2.1, va_K.moved hW.alike hw.1, hw.2.2.1⟩, hw.2.2.2.1.F ht⟩) hw.2.2.2.1.2.2 dX9_takeSign_25
  refine lv_if_eq (tgt := 24) hx hb dX9_takeSign_11 (by decide) (fun c_11 => ?_) (fun c_11 => ?_)
  · simp only [fa_lt, fa_le, fa_eq, li_0] at c_11
    exact J24 _ _ _ w_1 hw hM (lv_sub hl [1, 2, 0] rfl)
  · simp only [fa_lt, fa_le, fa_eq, li_0] at c_11
    refine lv_aload_n hx hb dX9_takeSign_14 rfl (lv_at hl 1 rfl) ?_
    refine lv_aload_n hx hb dX9_takeSign_15 rfl (lv_at hl 1 rfl) ?_
    refine t_getk (ci := 9) (C := RX9) (T := TX9) (N := 4) hx hb hts iX9 hown hw rfl 2 (by decide) (hts _ tw_41) (fun _ h9 => h9) dX9_takeSign_16 f_a0_X9_2 ?_
    refine lv_iconst (v := 1) hx hb dX9_takeSign_19 (by decide) ?_
    refine lv_iadd hx hb dX9_takeSign_20 ?_
    refine lv_topi (fun v20 e_v20 => ?_)
    have e_v20 : v20.toInt = v2.toInt + 1 := ad_i e_v20 rfl li_1 (by omega) (by omega)
    refine t_callv (va_runV (As := [.int v20]) (rest := []) ⟨hx, hb, hml, hown, hts⟩ (t_X9_moveTo l dC dI tys κ B w_1 hw.2.2.2.2 a0 k_a0 v20 (by omega) (by omega) H.size) (cwV 1 hts (gUV tw_496 tw_498 ts_0_0 tw_2 tw_499) rfl rfl rfl (by decide +kernel) ⟨(Nat.le_of_ble_eq_true rfl), (Nat.le_of_ble_eq_true rfl)⟩) ⟨cPre.blind, t_recv hw (ci := 9) k_a0 rfl rfl, cPre.use hw.2.1 hw.1 hw.2.2.1 hE⟩ rfl rfl hl.1 rfl (lv_room (Nat.le_of_ble_eq_true rfl)) dX9_takeSign_21 ⟨(Nat.le_of_ble_eq_true rfl), (Nat.le_of_ble_eq_true rfl)⟩) hw hA (fun _ h => h.1) (fun w_2 H locs hp hw => ?_)
    obtain ⟨_, hm⟩ := hp
    have hM := hM.trans hm (by decide) (by decide)
    exact J24 _ _ _ w_2 hw hM (lv_sub hl [1, 2, 0] rfl)
set_option maxHeartbeats 4000000 in
set_option maxRecDepth 100000 in
theorem t_X8_begin (l : Launch) (dC : Nat → ClassId) (dI : Nat → Nat → Nat) (tys : List (ClassId × FieldType)) (κ : tK) (B : Nat) (ws : va_W) (hT : Ty κ tys B ws) (a0 : Nat) (k_a0 : κ a0 = some 8) (a1 : Nat) (k_a1 : κ a1 = some 0) (sz : Nat) : Met l yX8_begin (ws_u yX8_begin cX8_begin 2 none) ({ frames := 1, cells := 0, slots := 0, locals := 60 }) (va_Pc [.ref a0, .ref a1] (cPre (dC, dI) tys ws sz)) (va_Qv (fun (w : va_W) => Ty κ tys B w ∧ Sm [(8, 0), (8, 1), (8, 2), (8, 3), (8, 4), (8, 5), (8, 6)] [43, 44, 45, 46, 47, 48] κ ws w) (fun w t => cPost (dC, dI) tys w (va_A ws sz) t) (va_A ws sz)) 0 0 (va_A ws sz) := by
  refine Met.ofW (cc := cX8_begin) (maxL := 2) (ret := none) (by decide) rfl ?_
  intro p e s m args below meth c s₁ B0 hml hv
  obtain ⟨rfl, hsz, hP, hK, hD0, hE⟩ := hv
  have hx := B0.exec
  have hb := B0.bytes
  have hr := B0.returns
  have hts0 := atoms_spec (ws := ws_u yX8_begin cX8_begin 2 none) B0.pre
  have hts : ∀ w ∈ gT, w.before _ s = true := fun w h => hts0 w (List.mem_cons_of_mem _ h)
  have hown : s.vm.findClass RX8 = some m.cls := findClass_of_methodNamed B0.named
  have hlocks := B0.notSynchronized
  subst hsz
  have hD := hD0.self (sz := s.heap.size)
  generalize hAe : va_A ws s.heap.size = A at hD ⊢
  have hA : ∀ q : Nat, s.heap.size ≤ q → A q := fun q h => by rw [← hAe]; exact Or.inr h
  have hw : tW (dC, dI) tys κ B A s ws s.heap [] := ⟨hK, hP, hD, va_S.rf, hT⟩
  have hM : Sm [(8, 0), (8, 1), (8, 2), (8, 3), (8, 4), (8, 5), (8, 6)] [43, 44, 45, 46, 47, 48] κ ws ws := Sm.rf
  clear hP hK hD hD0 hts0
  have hl := lv_entry ([.ref a0, .ref a1]) (n := 2) (Nat.le_of_ble_eq_true rfl)
  rw [lg_entry_eq]
  generalize (lg_sl ([.ref a0, .ref a1]) ++ List.replicate (2 - (lg_sl ([.ref a0, .ref a1])).length) Slot.unset).toArray = ls at hl ⊢
  have hl : lv_has ls 2 [(0, .ref a0), (1, .ref a1)] := hl
  refine t_start (fun QQ hQ => ?_)
  refine lv_aload_n hx hb dX8_begin_0 rfl (lv_at hl 0 rfl) ?_
  refine lv_iconst (v := 0) hx hb dX8_begin_1 (by decide) ?_
  refine t_put (ci := 8) (C := RX8) (T := TX8) (N := 13) (v := .int 0) hx hb hts iX8 tyX8 tyX8_ok nmX8 hown hw k_a0 rfl rfl rfl 0 (by decide) (hts _ tw_220) (fun _ h9 => h9) rfl (tyX8_ok 0 (by decide)) rfl rfl (okV.int rfl (by decide) (by decide)) dX8_begin_2 (fun w_1 H locs hw u => ?_)
  have hM := hM.up1 u (by decide)
  have f_a0_X8_0 := u.2.2
  refine lv_aload_n hx hb dX8_begin_5 rfl (lv_at hl 0 rfl) ?_
  refine lv_iconst (v := (-1)) hx hb dX8_begin_6 (by decide) ?_
  refine t_put (ci := 8) (C := RX8) (T := TX8) (N := 13) (v := .int (-1)) hx hb hts iX8 tyX8 tyX8_ok nmX8 hown hw k_a0 rfl rfl rfl 1 (by decide) (hts _ tw_223) (fun _ h9 => h9) rfl (tyX8_ok 1 (by decide)) rfl rfl (okV.int rfl (by decide) (by decide)) dX8_begin_7 (fun w_2 H locs hw u => ?_)
  have hM := hM.up1 u (by decide)
  have f_a0_X8_0 := u.1 _ _ _ _ f_a0_X8_0 (Or.inr (Or.inr (by decide)))
  have f_a0_X8_1 := u.2.2
  refine lv_aload_n hx hb dX8_begin_10 rfl (lv_at hl 0 rfl) ?_
  refine lv_iconst (v := (-1)) hx hb dX8_begin_11 (by decide) ?_
  refine t_put (ci := 8) (C := RX8) (T := TX8) (N := 13) (v := .int (-1)) hx hb hts iX8 tyX8 tyX8_ok nmX8 hown hw k_a0 rfl rfl rfl 2 (by decide) (hts _ tw_227) (fun _ h9 => h9) rfl (tyX8_ok 2 (by decide)) rfl rfl (okV.int rfl (by decide) (by decide)) dX8_begin_12 (fun w_3 H locs hw u => ?_)
  have hM := hM.up1 u (by decide)
  have f_a0_X8_0 := u.1 _ _ _ _ f_a0_X8_0 (Or.inr (Or.inr (by decide)))
  have f_a0_X8_1 := u.1 _ _ _ _ f_a0_X8_1 (Or.inr (Or.inr (by decide)))
  have f_a0_X8_2 := u.2.2
  refine lv_aload_n hx hb dX8_begin_15 rfl (lv_at hl 0 rfl) ?_
  refine lv_iconst (v := 0) hx hb dX8_begin_16 (by decide) ?_
  refine t_put (ci := 8) (C := RX8) (T := TX8) (N := 13) (v := .int 0) hx hb hts iX8 tyX8 tyX8_ok nmX8 hown hw k_a0 rfl rfl rfl 3 (by decide) (hts _ tw_229) (fun _ h9 => h9) rfl (tyX8_ok 3 (by decide)) rfl rfl (okV.int rfl (by decide) (by decide)) dX8_begin_17 (fun w_4 H locs hw u => ?_)
  have hM := hM.up1 u (by decide)
  have f_a0_X8_0 := u.1 _ _ _ _ f_a0_X8_0 (Or.inr (Or.inr (by decide)))
  have f_a0_X8_1 := u.1 _ _ _ _ f_a0_X8_1 (Or.inr (Or.inr (by decide)))
  have f_a0_X8_2 := u.1 _ _ _ _ f_a0_X8_2 (Or.inr (Or.inr (by decide)))
  have f_a0_X8_3 := u.2.2
  refine lv_aload_n hx hb dX8_begin_20 rfl (lv_at hl 0 rfl) ?_
  refine lv_iconst (v := 0) hx hb dX8_begin_21 (by decide) ?_
  refine t_put (ci := 8) (C := RX8) (T := TX8) (N := 13) (v := .int 0) hx hb hts iX8 tyX8 tyX8_ok nmX8 hown hw k_a0 rfl rfl rfl 4 (by decide) (hts _ tw_231) (fun _ h9 => h9) rfl (tyX8_ok 4 (by decide)) rfl rfl (okV.int rfl (by decide) (by decide)) dX8_begin_22 (fun w_5 H locs hw u => ?_)
  have hM := hM.up1 u (by decide)
  have f_a0_X8_0 := u.1 _ _ _ _ f_a0_X8_0 (Or.inr (Or.inr (by decide)))
  have f_a0_X8_1 := u.1 _ _ _ _ f_a0_X8_1 (Or.inr (Or.inr (by decide)))
  have f_a0_X8_2 := u.1 _ _ _ _ f_a0_X8_2 (Or.inr (Or.inr (by decide)))
  have f_a0_X8_3 := u.1 _ _ _ _ f_a0_X8_3 (Or.inr (Or.inr (by decide)))
  have f_a0_X8_4 := u.2.2
  refine lv_aload_n hx hb dX8_begin_25 rfl (lv_at hl 0 rfl) ?_
  refine lv_iconst (v := 0) hx hb dX8_begin_26 (by decide) ?_
  refine t_put (ci := 8) (C := RX8) (T := TX8) (N := 13) (v := .int 0) hx hb hts iX8 tyX8 tyX8_ok nmX8 hown hw k_a0 rfl rfl rfl 5 (by decide) (hts _ tw_234) (fun _ h9 => h9) rfl (tyX8_ok 5 (by decide)) rfl rfl (okV.int rfl (by decide) (by decide)) dX8_begin_27 (fun w_6 H locs hw u => ?_)
  have hM := hM.up1 u (by decide)
  have f_a0_X8_0 := u.1 _ _ _ _ f_a0_X8_0 (Or.inr (Or.inr (by decide)))
  have f_a0_X8_1 := u.1 _ _ _ _ f_a0_X8_1 (Or.inr (Or.inr (by decide)))
  have f_a0_X8_2 := u.1 _ _ _ _ f_a0_X8_2 (Or.inr (Or.inr (by decide)))
  have f_a0_X8_3 := u.1 _ _ _ _ f_a0_X8_3 (Or.inr (Or.inr (by decide)))
  have f_a0_X8_4 := u.1 _ _ _ _ f_a0_X8_4 (Or.inr (Or.inr (by decide)))
  have f_a0_X8_5 := u.2.2
  refine lv_aload_n hx hb dX8_begin_30 rfl (lv_at hl 0 rfl) ?_
  refine lv_iconst (v := 0) hx hb dX8_begin_31 (by decide) ?_
  refine t_put (ci := 8) (C := RX8) (T := TX8) (N := 13) (v := .int 0) hx hb hts iX8 tyX8 tyX8_ok nmX8 hown hw k_a0 rfl rfl rfl 6 (by decide) (hts _ tw_236) (fun _ h9 => h9) rfl (tyX8_ok 6 (by decide)) rfl rfl (okV.int rfl (by decide) (by decide)) dX8_begin_32 (fun w_7 H locs hw u => ?_)
  have hM := hM.up1 u (by decide)
  have f_a0_X8_0 := u.1 _ _ _ _ f_a0_X8_0 (Or.inr (Or.inr (by decide)))
  have f_a0_X8_1 := u.1 _ _ _ _ f_a0_X8_1 (Or.inr (Or.inr (by decide)))
  have f_a0_X8_2 := u.1 _ _ _ _ f_a0_X8_2 (Or.inr (Or.inr (by decide)))
  have f_a0_X8_3 := u.1 _ _ _ _ f_a0_X8_3 (Or.inr (Or.inr (by decide)))
  have f_a0_X8_4 := u.1 _ _ _ _ f_a0_X8_4 (Or.inr (Or.inr (by decide)))
  have f_a0_X8_5 := u.1 _ _ _ _ f_a0_X8_5 (Or.inr (Or.inr (by decide)))
  have f_a0_X8_6 := u.2.2
  refine lv_aload_n hx hb dX8_begin_35 rfl (lv_at hl 1 rfl) ?_
  refine t_getr (k1 := 20) (ci := 0) (C := RX0) (T := TX0) (N := 16) hx hb hts iX0 hown hw k_a1 rfl rfl rfl 6 (by decide) (hts _ tw_91) (fun _ h9 => h9) dX8_begin_36 rfl (fun v36 k_v36 f_a1_X0_6 => ?_)
  refine lv_iconst (v := 0) hx hb dX8_begin_39 (by decide) ?_
  refine lv_aload_n hx hb dX8_begin_40 rfl (lv_at hl 0 rfl) ?_
  refine t_getr (k1 := 43) (ci := 8) (C := RX8) (T := TX8) (N := 13) hx hb hts iX8 hown hw k_a0 rfl rfl rfl 7 (by decide) (hts _ tw_238) (fun _ h9 => h9) dX8_begin_41 rfl (fun v41 k_v41 f_a0_X8_7 => ?_)
  refine lv_iconst (v := 0) hx hb dX8_begin_44 (by decide) ?_
  refine lv_bipush (v := 6) hx hb dX8_begin_45 (by decide) ?_
  refine t_copyi hx hb (hml.trans hl.1.symm) hown (hts _ tw_621) (hts _ tw_623) (hts _ tw_622) (hts _ tw_20) hw k_v36 k_v41 rfl rfl rfl rfl (by decide) (by decide) (by decide) (fun _ _ => rfl) (Nat.le_of_ble_eq_true rfl) (Nat.le_of_ble_eq_true rfl) dX8_begin_47 (fun w_8 H locs y hw u => ?_)
  have hM := hM.up2 u k_v41 (by decide)
  have f_a0_X8_0 := u.1 _ _ _ _ f_a0_X8_0
  have f_a0_X8_1 := u.1 _ _ _ _ f_a0_X8_1
  have f_a0_X8_2 := u.1 _ _ _ _ f_a0_X8_2
  have f_a0_X8_3 := u.1 _ _ _ _ f_a0_X8_3
  have f_a0_X8_4 := u.1 _ _ _ _ f_a0_X8_4
  have f_a0_X8_5 := u.1 _ _ _ _ f_a0_X8_5
  have f_a0_X8_6 := u.1 _ _ _ _ f_a0_X8_6
  have f_a1_X0_6 := u.1 _ _ _ _ f_a1_X0_6
  have f_a0_X8_7 := u.1 _ _ _ _ f_a0_X8_7
  refine lv_aload_n hx hb dX8_begin_50 rfl (lv_at hl 1 rfl) ?_
  refine t_getr (k1 := 21) (ci := 0) (C := RX0) (T := TX0) (N := 16) hx hb hts iX0 hown hw k_a1 rfl rfl rfl 7 (by decide) (hts _ tw_94) (fun _ h9 => h9) dX8_begin_51 rfl (fun v51 k_v51 f_a1_X0_7 => ?_)
  refine lv_iconst (v := 0) hx hb dX8_begin_54 (by decide) ?_
  refine lv_aload_n hx hb dX8_begin_55 rfl (lv_at hl 0 rfl) ?_
  refine t_getr (k1 := 44) (ci := 8) (C := RX8) (T := TX8) (N := 13) hx hb hts iX8 hown hw k_a0 rfl rfl rfl 8 (by decide) (hts _ tw_242) (fun _ h9 => h9) dX8_begin_56 rfl (fun v56 k_v56 f_a0_X8_8 => ?_)
  refine lv_iconst (v := 0) hx hb dX8_begin_59 (by decide) ?_
  refine lv_bipush (v := 6) hx hb dX8_begin_60 (by decide) ?_
  refine t_copyi hx hb (hml.trans hl.1.symm) hown (hts _ tw_621) (hts _ tw_623) (hts _ tw_622) (hts _ tw_20) hw k_v51 k_v56 rfl rfl rfl rfl (by decide) (by decide) (by decide) (fun _ _ => rfl) (Nat.le_of_ble_eq_true rfl) (Nat.le_of_ble_eq_true rfl) dX8_begin_62 (fun w_9 H locs y hw u => ?_)
  have hM := hM.up2 u k_v56 (by decide)
  have f_a0_X8_0 := u.1 _ _ _ _ f_a0_X8_0
  have f_a0_X8_1 := u.1 _ _ _ _ f_a0_X8_1
  have f_a0_X8_2 := u.1 _ _ _ _ f_a0_X8_2
  have f_a0_X8_3 := u.1 _ _ _ _ f_a0_X8_3
  have f_a0_X8_4 := u.1 _ _ _ _ f_a0_X8_4
  have f_a0_X8_5 := u.1 _ _ _ _ f_a0_X8_5
  have f_a0_X8_6 := u.1 _ _ _ _ f_a0_X8_6
  have f_a1_X0_6 := u.1 _ _ _ _ f_a1_X0_6
  have f_a0_X8_7 := u.1 _ _ _ _ f_a0_X8_7
  have f_a1_X0_7 := u.1 _ _ _ _ f_a1_X0_7
  have f_a0_X8_8 := u.1 _ _ _ _ f_a0_X8_8
  refine lv_aload_n hx hb dX8_begin_65 rfl (lv_at hl 0 rfl) ?_
  refine t_getr (k1 := 45) (ci := 8) (C := RX8) (T := TX8) (N := 13) hx hb hts iX8 hown hw k_a0 rfl rfl rfl 9 (by decide) (hts _ tw_245) (fun _ h9 => h9) dX8_begin_66 rfl (fun v66 k_v66 f_a0_X8_9 => ?_)
  refine lv_iconst (v := 0) hx hb dX8_begin_69 (by decide) ?_
  refine t_callv (va_runS (As := [.ref v66, .int 0]) (rest := []) ⟨hx, hb, hml, hown, hts⟩ (t_J7_fill_53178_Standing_was l dC dI tys κ B w_9 hw.2.2.2.2 v66 k_v66 0 H.size) (va_cwS 2 hts (gUS tw_624 tw_489 tw_14 tw_490) rfl rfl rfl (by decide +kernel) ⟨(Nat.le_of_ble_eq_true rfl), (Nat.le_of_ble_eq_true rfl)⟩) ⟨cPre.blind, cPre.use hw.2.1 hw.1 hw.2.2.1 hE⟩ rfl rfl hl.1 rfl (lv_room (Nat.le_of_ble_eq_true rfl)) dX8_begin_70 ⟨(Nat.le_of_ble_eq_true rfl), (Nat.le_of_ble_eq_true rfl)⟩) hw hA (fun _ h => h.1) (fun w_10 H locs hp hw => ?_)
  obtain ⟨_, hm⟩ := hp
  have hM := hM.trans hm (by decide) (by decide)
  have f_a0_X8_0 := hm.1 _ _ _ _ f_a0_X8_0 (by decide)
  have f_a0_X8_1 := hm.1 _ _ _ _ f_a0_X8_1 (by decide)
  have f_a0_X8_2 := hm.1 _ _ _ _ f_a0_X8_2 (by decide)
  have f_a0_X8_3 := hm.1 _ _ _ _ f_a0_X8_3 (by decide)
  have f_a0_X8_4 := hm.1 _ _ _ _ f_a0_X8_4 (by decide)
  have f_a0_X8_5 := hm.1 _ _ _ _ f_a0_X8_5 (by decide)
  have f_a0_X8_6 := hm.1 _ _ _ _ f_a0_X8_6 (by decide)
  have f_a1_X0_6 := hm.1 _ _ _ _ f_a1_X0_6 (by decide)
  have f_a0_X8_7 := hm.1 _ _ _ _ f_a0_X8_7 (by decide)
  have f_a1_X0_7 := hm.1 _ _ _ _ f_a1_X0_7 (by decide)
  have f_a0_X8_8 := hm.1 _ _ _ _ f_a0_X8_8 (by decide)
  have f_a0_X8_9 := hm.1 _ _ _ _ f_a0_X8_9 (by decide)
  refine lv_aload_n hx hb dX8_begin_73 rfl (lv_at hl 1 rfl) ?_
  refine t_getr (k1 := 24) (ci := 0) (C := RX0) (T := TX0) (N := 16) hx hb hts iX0 hown hw k_a1 rfl rfl rfl 10 (by decide) (hts _ tw_106) (fun _ h9 => h9) dX8_begin_74 rfl (fun v74 k_v74 f_a1_X0_10 => ?_)
  refine lv_iconst (v := 0) hx hb dX8_begin_77 (by decide) ?_
  refine lv_aload_n hx hb dX8_begin_78 rfl (lv_at hl 0 rfl) ?_
  refine t_getr (k1 := 46) (ci := 8) (C := RX8) (T := TX8) (N := 13) hx hb hts iX8 hown hw k_a0 rfl rfl rfl 10 (by decide) (hts _ tw_248) (fun _ h9 => h9) dX8_begin_79 rfl (fun v79 k_v79 f_a0_X8_10 => ?_)
  refine lv_iconst (v := 0) hx hb dX8_begin_82 (by decide) ?_
  refine lv_iconst (v := 4) hx hb dX8_begin_83 (by decide) ?_
  refine t_copyi hx hb (hml.trans hl.1.symm) hown (hts _ tw_621) (hts _ tw_623) (hts _ tw_622) (hts _ tw_20) hw k_v74 k_v79 rfl rfl rfl rfl (by decide) (by decide) (by decide) (fun _ _ => rfl) (Nat.le_of_ble_eq_true rfl) (Nat.le_of_ble_eq_true rfl) dX8_begin_84 (fun w_11 H locs y hw u => ?_)
  have hM := hM.up2 u k_v79 (by decide)
  have f_a0_X8_0 := u.1 _ _ _ _ f_a0_X8_0
  have f_a0_X8_1 := u.1 _ _ _ _ f_a0_X8_1
  have f_a0_X8_2 := u.1 _ _ _ _ f_a0_X8_2
  have f_a0_X8_3 := u.1 _ _ _ _ f_a0_X8_3
  have f_a0_X8_4 := u.1 _ _ _ _ f_a0_X8_4
  have f_a0_X8_5 := u.1 _ _ _ _ f_a0_X8_5
  have f_a0_X8_6 := u.1 _ _ _ _ f_a0_X8_6
  have f_a1_X0_6 := u.1 _ _ _ _ f_a1_X0_6
  have f_a0_X8_7 := u.1 _ _ _ _ f_a0_X8_7
  have f_a1_X0_7 := u.1 _ _ _ _ f_a1_X0_7
  have f_a0_X8_8 := u.1 _ _ _ _ f_a0_X8_8
  have f_a0_X8_9 := u.1 _ _ _ _ f_a0_X8_9
  have f_a1_X0_10 := u.1 _ _ _ _ f_a1_X0_10
  have f_a0_X8_10 := u.1 _ _ _ _ f_a0_X8_10
  refine lv_aload_n hx hb dX8_begin_87 rfl (lv_at hl 0 rfl) ?_
  refine t_getr (k1 := 47) (ci := 8) (C := RX8) (T := TX8) (N := 13) hx hb hts iX8 hown hw k_a0 rfl rfl rfl 11 (by decide) (hts _ tw_250) (fun _ h9 => h9) dX8_begin_88 rfl (fun v88 k_v88 f_a0_X8_11 => ?_)
  refine lv_iconst (v := (-1)) hx hb dX8_begin_91 (by decide) ?_
  refine t_callv (va_runS (As := [.ref v88, .int (-1)]) (rest := []) ⟨hx, hb, hml, hown, hts⟩ (t_J7_fill_53178_Standing_given l dC dI tys κ B w_11 hw.2.2.2.2 v88 k_v88 (-1) H.size) (va_cwS 2 hts (gUS tw_624 tw_489 tw_14 tw_490) rfl rfl rfl (by decide +kernel) ⟨(Nat.le_of_ble_eq_true rfl), (Nat.le_of_ble_eq_true rfl)⟩) ⟨cPre.blind, cPre.use hw.2.1 hw.1 hw.2.2.1 hE⟩ rfl rfl hl.1 rfl (lv_room (Nat.le_of_ble_eq_true rfl)) dX8_begin_92 ⟨(Nat.le_of_ble_eq_true rfl), (Nat.le_of_ble_eq_true rfl)⟩) hw hA (fun _ h => h.1) (fun w_12 H locs hp hw => ?_)
  obtain ⟨_, hm⟩ := hp
  have hM := hM.trans hm (by decide) (by decide)
  have f_a0_X8_0 := hm.1 _ _ _ _ f_a0_X8_0 (by decide)
  have f_a0_X8_1 := hm.1 _ _ _ _ f_a0_X8_1 (by decide)
  have f_a0_X8_2 := hm.1 _ _ _ _ f_a0_X8_2 (by decide)
  have f_a0_X8_3 := hm.1 _ _ _ _ f_a0_X8_3 (by decide)
  have f_a0_X8_4 := hm.1 _ _ _ _ f_a0_X8_4 (by decide)
  have f_a0_X8_5 := hm.1 _ _ _ _ f_a0_X8_5 (by decide)
  have f_a0_X8_6 := hm.1 _ _ _ _ f_a0_X8_6 (by decide)
  have f_a1_X0_6 := hm.1 _ _ _ _ f_a1_X0_6 (by decide)
  have f_a0_X8_7 := hm.1 _ _ _ _ f_a0_X8_7 (by decide)
  have f_a1_X0_7 := hm.1 _ _ _ _ f_a1_X0_7 (by decide)
  have f_a0_X8_8 := hm.1 _ _ _ _ f_a0_X8_8 (by decide)
  have f_a0_X8_9 := hm.1 _ _ _ _ f_a0_X8_9 (by decide)
  have f_a1_X0_10 := hm.1 _ _ _ _ f_a1_X0_10 (by decide)
  have f_a0_X8_10 := hm.1 _ _ _ _ f_a0_X8_10 (by decide)
  have f_a0_X8_11 := hm.1 _ _ _ _ f_a0_X8_11 (by decide)
  refine lv_aload_n hx hb dX8_begin_95 rfl (lv_at hl 1 rfl) ?_
  refine t_getr (k1 := 26) (ci := 0) (C := RX0) (T := TX0) (N := 16) hx hb hts iX0 hown hw k_a1 rfl rfl rfl 12 (by decide) (hts _ tw_112) (fun _ h9 => h9) dX8_begin_96 rfl (fun v96 k_v96 f_a1_X0_12 => ?_)
  refine lv_iconst (v := 0) hx hb dX8_begin_99 (by decide) ?_
  refine lv_aload_n hx hb dX8_begin_100 rfl (lv_at hl 0 rfl) ?_
  refine t_getr (k1 := 48) (ci := 8) (C := RX8) (T := TX8) (N := 13) hx hb hts iX8 hown hw k_a0 rfl rfl rfl 12 (by decide) (hts _ tw_252) (fun _ h9 => h9) dX8_begin_101 rfl (fun v101 k_v101 f_a0_X8_12 => ?_)
  refine lv_iconst (v := 0) hx hb dX8_begin_104 (by decide) ?_
  refine lv_bipush (v := 6) hx hb dX8_begin_105 (by decide) ?_
  refine t_copyi hx hb (hml.trans hl.1.symm) hown (hts _ tw_621) (hts _ tw_623) (hts _ tw_622) (hts _ tw_20) hw k_v96 k_v101 rfl rfl rfl rfl (by decide) (by decide) (by decide) (fun _ _ => rfl) (Nat.le_of_ble_eq_true rfl) (Nat.le_of_ble_eq_true rfl) dX8_begin_107 (fun w_13 H locs y hw u => ?_)
  have hM := hM.up2 u k_v101 (by decide)
  have f_a0_X8_0 := u.1 _ _ _ _ f_a0_X8_0
  have f_a0_X8_1 := u.1 _ _ _ _ f_a0_X8_1
  have f_a0_X8_2 := u.1 _ _ _ _ f_a0_X8_2
  have f_a0_X8_3 := u.1 _ _ _ _ f_a0_X8_3
  have f_a0_X8_4 := u.1 _ _ _ _ f_a0_X8_4
  have f_a0_X8_5 := u.1 _ _ _ _ f_a0_X8_5
  have f_a0_X8_6 := u.1 _ _ _ _ f_a0_X8_6
  have f_a1_X0_6 := u.1 _ _ _ _ f_a1_X0_6
  have f_a0_X8_7 := u.1 _ _ _ _ f_a0_X8_7
  have f_a1_X0_7 := u.1 _ _ _ _ f_a1_X0_7
  have f_a0_X8_8 := u.1 _ _ _ _ f_a0_X8_8
  have f_a0_X8_9 := u.1 _ _ _ _ f_a0_X8_9
  have f_a1_X0_10 := u.1 _ _ _ _ f_a1_X0_10
  have f_a0_X8_10 := u.1 _ _ _ _ f_a0_X8_10
  have f_a0_X8_11 := u.1 _ _ _ _ f_a0_X8_11
  have f_a1_X0_12 := u.1 _ _ _ _ f_a1_X0_12
  have f_a0_X8_12 := u.1 _ _ _ _ f_a0_X8_12
  rw [hQ]
  refine W.widen (k := 0) (n := 0) (Nat.le_refl _) (Nat.le_refl _) ?_
  exact W.vret hx hb hr (fun t ht hW => ⟨⟨w_13, rfl, ⟨hw.2.2.2.2, hM⟩, by rw [ht]; exact hw.2.1, va_K.moved hW.alike hw.1, hw.2.2.1⟩, hw.2.2.2.1.F ht⟩) hw.2.2.2.1.2.2 dX8_begin_110
set_option maxHeartbeats 4000000 in
set_option maxRecDepth 100000 in
theorem t_X11_countOfStanding (l : Launch) (dC : Nat → ClassId) (dI : Nat → Nat → Nat) (tys : List (ClassId × FieldType)) (κ : tK) (B : Nat) (ws : va_W) (hT : Ty κ tys B ws) (a0 : Nat) (k_a0 : κ a0 = some 11) (a1 : Int32) (sz : Nat) : Met l yX11_countOfStanding (ws_u yX11_countOfStanding cX11_countOfStanding 3 (some .int)) ({ frames := 1, cells := 0, slots := 0, locals := 23 }) (va_Pc [.ref a0, .int a1] (cPre (dC, dI) tys ws sz)) (va_Qi (fun (r : Int32) (w : va_W) => Ty κ tys B w ∧ Sm [] [] κ ws w) (fun w t => cPost (dC, dI) tys w (va_A ws sz) t) (va_A ws sz)) 0 0 (va_A ws sz) := by
  refine Met.ofW (cc := cX11_countOfStanding) (maxL := 3) (ret := (some .int)) (by decide) rfl ?_
  intro p e s m args below meth c s₁ B0 hml hv
  obtain ⟨rfl, hsz, hP, hK, hD0, hE⟩ := hv
  have hx := B0.exec
  have hb := B0.bytes
  have hr := B0.returns
  have hts0 := atoms_spec (ws := ws_u yX11_countOfStanding cX11_countOfStanding 3 (some .int)) B0.pre
  have hts : ∀ w ∈ gT, w.before _ s = true := fun w h => hts0 w (List.mem_cons_of_mem _ h)
  have hown : s.vm.findClass RX11 = some m.cls := findClass_of_methodNamed B0.named
  have hlocks := B0.notSynchronized
  subst hsz
  have hD := hD0.self (sz := s.heap.size)
  generalize hAe : va_A ws s.heap.size = A at hD ⊢
  have hA : ∀ q : Nat, s.heap.size ≤ q → A q := fun q h => by rw [← hAe]; exact Or.inr h
  have hw : tW (dC, dI) tys κ B A s ws s.heap [] := ⟨hK, hP, hD, va_S.rf, hT⟩
  have hM : Sm [] [] κ ws ws := Sm.rf
  clear hP hK hD hD0 hts0
  have l_a1 := i32_lo a1
  have h_a1 := i32_hi a1
  have hl := lv_entry ([.ref a0, .int a1]) (n := 3) (Nat.le_of_ble_eq_true rfl)
  rw [lg_entry_eq]
  generalize (lg_sl ([.ref a0, .int a1]) ++ List.replicate (3 - (lg_sl ([.ref a0, .int a1])).length) Slot.unset).toArray = ls at hl ⊢
  have hl : lv_has ls 3 [(0, .ref a0), (1, .int a1)] := hl
  refine t_start (fun QQ hQ => ?_)
  refine lv_aload_n hx hb dX11_countOfStanding_0 rfl (lv_at hl 0 rfl) ?_
  refine t_getr (k1 := 10) (ci := 11) (C := RX11) (T := TX11) (N := 12) hx hb hts iX11 hown hw k_a0 rfl rfl rfl 5 (by decide) (hts _ tw_428) (fun _ h9 => h9) dX11_countOfStanding_1 rfl (fun v1 k_v1 f_a0_X11_5 => ?_)
  refine t_getr (k1 := 8) (ci := 10) (C := RX10) (T := TX10) (N := 8) hx hb hts iX10 hown hw k_v1 rfl rfl rfl 1 (by decide) (hts _ tw_285) (fun _ h9 => h9) dX11_countOfStanding_4 rfl (fun v4 k_v4 f_v1_X10_1 => ?_)
  refine lv_astore_n (lv' := [(2, .ref v4), (0, .ref a0), (1, .int a1)]) hx hb dX11_countOfStanding_7 rfl hl (by decide) rfl (fun ls hl => ?_)
  refine lv_iload_n hx hb dX11_countOfStanding_8 rfl (lv_at hl 2 rfl) ?_
  rcases Classical.em (a1.toInt = 7) with c_9_0 | c_9_0
  · refine lv_tableIn (tgt := 60) hx hb dX11_countOfStanding_9 (by omega) (by omega) (by rw [c_9_0]; rfl) (by decide) ?_
    refine lv_aload_n hx hb dX11_countOfStanding_60 rfl (lv_at hl 0 rfl) ?_
    refine t_geti (ci := 8) (C := RX8) (T := TX8) (N := 13) hx hb hts iX8 hown hw k_v4 rfl rfl rfl 0 (by decide) (hts _ tw_222) (fun _ h9 => h9) dX11_countOfStanding_61 rfl (fun v61 l_v61 h_v61 f_v4_X8_0 => ?_)
    have l_v61 : (-2147483648) ≤ v61.toInt := l_v61
    have h_v61 : v61.toInt ≤ 2147483647 := h_v61
    rw [hQ]
    refine W.widen (k := 0) (n := 0) (Nat.le_refl _) (Nat.le_refl _) ?_
    exact W.iret (v := v61) hx hb hr (fun t ht hW => ⟨⟨v61, ws, rfl, ⟨hw.2.2.2.2, hM⟩, by rw [ht]; exact hw.2.1, va_K.moved hW.alike hw.1, hw.2.2.1⟩, hw.2.2.2.1.F ht⟩) hw.2.2.2.1.2.2 dX11_countOfStanding_64
  rcases Classical.em (a1.toInt = 8) with c_9_1 | c_9_1
  · refine lv_tableIn (tgt := 65) hx hb dX11_countOfStanding_9 (by omega) (by omega) (by rw [c_9_1]; rfl) (by decide) ?_
    refine lv_aload_n hx hb dX11_countOfStanding_65 rfl (lv_at hl 0 rfl) ?_
    refine t_geti (ci := 8) (C := RX8) (T := TX8) (N := 13) hx hb hts iX8 hown hw k_v4 rfl rfl rfl 1 (by decide) (hts _ tw_226) (fun _ h9 => h9) dX11_countOfStanding_66 rfl (fun v66 l_v66 h_v66 f_v4_X8_1 => ?_)
    have l_v66 : (-1) ≤ v66.toInt := l_v66
    have h_v66 : v66.toInt ≤ 5 := h_v66
    rw [hQ]
    refine W.widen (k := 0) (n := 0) (Nat.le_refl _) (Nat.le_refl _) ?_
    exact W.iret (v := v66) hx hb hr (fun t ht hW => ⟨⟨v66, ws, rfl, ⟨hw.2.2.2.2, hM⟩, by rw [ht]; exact hw.2.1, va_K.moved hW.alike hw.1, hw.2.2.1⟩, hw.2.2.2.1.F ht⟩) hw.2.2.2.1.2.2 dX11_countOfStanding_69
  rcases Classical.em (a1.toInt = 9) with c_9_2 | c_9_2
  · refine lv_tableIn (tgt := 70) hx hb dX11_countOfStanding_9 (by omega) (by omega) (by rw [c_9_2]; rfl) (by decide) ?_
    refine lv_aload_n hx hb dX11_countOfStanding_70 rfl (lv_at hl 0 rfl) ?_
    refine t_geti (ci := 8) (C := RX8) (T := TX8) (N := 13) hx hb hts iX8 hown hw k_v4 rfl rfl rfl 2 (by decide) (hts _ tw_228) (fun _ h9 => h9) dX11_countOfStanding_71 rfl (fun v71 l_v71 h_v71 f_v4_X8_2 => ?_)
    have l_v71 : (-2147483648) ≤ v71.toInt := l_v71
    have h_v71 : v71.toInt ≤ 2147483647 := h_v71
    rw [hQ]
    refine W.widen (k := 0) (n := 0) (Nat.le_refl _) (Nat.le_refl _) ?_
    exact W.iret (v := v71) hx hb hr (fun t ht hW => ⟨⟨v71, ws, rfl, ⟨hw.2.2.2.2, hM⟩, by rw [ht]; exact hw.2.1, va_K.moved hW.alike hw.1, hw.2.2.1⟩, hw.2.2.2.1.F ht⟩) hw.2.2.2.1.2.2 dX11_countOfStanding_74
  rcases Classical.em (a1.toInt = 10) with c_9_3 | c_9_3
  · refine lv_tableIn (tgt := 75) hx hb dX11_countOfStanding_9 (by omega) (by omega) (by rw [c_9_3]; rfl) (by decide) ?_
    refine lv_aload_n hx hb dX11_countOfStanding_75 rfl (lv_at hl 0 rfl) ?_
    refine t_geti (ci := 8) (C := RX8) (T := TX8) (N := 13) hx hb hts iX8 hown hw k_v4 rfl rfl rfl 4 (by decide) (hts _ tw_233) (fun _ h9 => h9) dX11_countOfStanding_76 rfl (fun v76 l_v76 h_v76 f_v4_X8_4 => ?_)
    have l_v76 : (-2147483648) ≤ v76.toInt := l_v76
    have h_v76 : v76.toInt ≤ 2147483647 := h_v76
    rw [hQ]
    refine W.widen (k := 0) (n := 0) (Nat.le_refl _) (Nat.le_refl _) ?_
    exact W.iret (v := v76) hx hb hr (fun t ht hW => ⟨⟨v76, ws, rfl, ⟨hw.2.2.2.2, hM⟩, by rw [ht]; exact hw.2.1, va_K.moved hW.alike hw.1, hw.2.2.1⟩, hw.2.2.2.1.F ht⟩) hw.2.2.2.1.2.2 dX11_countOfStanding_79
  rcases Classical.em (a1.toInt = 11) with c_9_4 | c_9_4
  · refine lv_tableIn (tgt := 80) hx hb dX11_countOfStanding_9 (by omega) (by omega) (by rw [c_9_4]; rfl) (by decide) ?_
    refine lv_aload_n hx hb dX11_countOfStanding_80 rfl (lv_at hl 0 rfl) ?_
    refine t_geti (ci := 8) (C := RX8) (T := TX8) (N := 13) hx hb hts iX8 hown hw k_v4 rfl rfl rfl 5 (by decide) (hts _ tw_235) (fun _ h9 => h9) dX11_countOfStanding_81 rfl (fun v81 l_v81 h_v81 f_v4_X8_5 => ?_)
    have l_v81 : (-2147483648) ≤ v81.toInt := l_v81
    have h_v81 : v81.toInt ≤ 2147483647 := h_v81
    rw [hQ]
    refine W.widen (k := 0) (n := 0) (Nat.le_refl _) (Nat.le_refl _) ?_
    exact W.iret (v := v81) hx hb hr (fun t ht hW => ⟨⟨v81, ws, rfl, ⟨hw.2.2.2.2, hM⟩, by rw [ht]; exact hw.2.1, va_K.moved hW.alike hw.1, hw.2.2.1⟩, hw.2.2.2.1.F ht⟩) hw.2.2.2.1.2.2 dX11_countOfStanding_84
  rcases Classical.em (a1.toInt = 12) with c_9_5 | c_9_5
  · refine lv_tableIn (tgt := 85) hx hb dX11_countOfStanding_9 (by omega) (by omega) (by rw [c_9_5]; rfl) (by decide) ?_
    refine lv_aload_n hx hb dX11_countOfStanding_85 rfl (lv_at hl 0 rfl) ?_
    refine t_geti (ci := 8) (C := RX8) (T := TX8) (N := 13) hx hb hts iX8 hown hw k_v4 rfl rfl rfl 3 (by decide) (hts _ tw_230) (fun _ h9 => h9) dX11_countOfStanding_86 rfl (fun v86 l_v86 h_v86 f_v4_X8_3 => ?_)
    have l_v86 : 0 ≤ v86.toInt := l_v86
    have h_v86 : v86.toInt ≤ 1 := h_v86
    refine lv_if_eq (tgt := 96) hx hb dX11_countOfStanding_89 (by decide) (fun c_89 => ?_) (fun c_89 => ?_)
    · simp only [fa_lt, fa_le, fa_eq, li_0] at c_89
      refine lv_iconst (v := 0) hx hb dX11_countOfStanding_96 (by decide) ?_
      rw [hQ]
      refine W.widen (k := 0) (n := 0) (Nat.le_refl _) (Nat.le_refl _) ?_
      exact W.iret (v := 0) hx hb hr (fun t ht hW => ⟨⟨0, ws, rfl, ⟨hw.2.2.2.2, hM⟩, by rw [ht]; exact hw.2.1, va_K.moved hW.alike hw.1, hw.2.2.1⟩, hw.2.2.2.1.F ht⟩) hw.2.2.2.1.2.2 dX11_countOfStanding_97
    · simp only [fa_lt, fa_le, fa_eq, li_0] at c_89
      refine lv_iconst (v := 1) hx hb dX11_countOfStanding_92 (by decide) ?_
      refine lv_goto (tgt := 97) hx hb dX11_countOfStanding_93 (by decide) ?_
      rw [hQ]
      refine W.widen (k := 0) (n := 0) (Nat.le_refl _) (Nat.le_refl _) ?_
      exact W.iret (v := 1) hx hb hr (fun t ht hW => ⟨⟨1, ws, rfl, ⟨hw.2.2.2.2, hM⟩, by rw [ht]; exact hw.2.1, va_K.moved hW.alike hw.1, hw.2.2.1⟩, hw.2.2.2.1.F ht⟩) hw.2.2.2.1.2.2 dX11_countOfStanding_97
  rcases Classical.em (a1.toInt = 13) with c_9_6 | c_9_6
  · refine lv_tableIn (tgt := 98) hx hb dX11_countOfStanding_9 (by omega) (by omega) (by rw [c_9_6]; rfl) (by decide) ?_
    refine lv_aload_n hx hb dX11_countOfStanding_98 rfl (lv_at hl 1 rfl) ?_
    refine t_getk (ci := 11) (C := RX11) (T := TX11) (N := 12) hx hb hts iX11 hown hw rfl 5 (by decide) (hts _ tw_428) (fun _ h9 => h9) dX11_countOfStanding_99 f_a0_X11_5 ?_
    refine t_getr (k1 := 0) (ci := 10) (C := RX10) (T := TX10) (N := 8) hx hb hts iX10 hown hw k_v1 rfl rfl rfl 0 (by decide) (hts _ tw_282) (fun _ h9 => h9) dX11_countOfStanding_102 rfl (fun v102 k_v102 f_v1_X10_0 => ?_)
    refine lv_aload_n hx hb dX11_countOfStanding_105 rfl (lv_at hl 0 rfl) ?_
    refine t_geti (ci := 8) (C := RX8) (T := TX8) (N := 13) hx hb hts iX8 hown hw k_v4 rfl rfl rfl 0 (by decide) (hts _ tw_222) (fun _ h9 => h9) dX11_countOfStanding_106 rfl (fun v106 l_v106 h_v106 f_v4_X8_0 => ?_)
    have l_v106 : (-2147483648) ≤ v106.toInt := l_v106
    have h_v106 : v106.toInt ≤ 2147483647 := h_v106
    refine t_calli (va_runV (As := [.int v106]) (rest := []) ⟨hx, hb, hml, hown, hts⟩ (t_X0_snowsOn l dC dI tys κ B ws hw.2.2.2.2 v102 k_v102 v106 s.heap.size) (cwV 1 hts (gUV tw_1103 tw_818 tw_819 tw_4 tw_820) rfl rfl rfl (by decide +kernel) ⟨(Nat.le_of_ble_eq_true rfl), (Nat.le_of_ble_eq_true rfl)⟩) ⟨cPre.blind, t_recv hw (ci := 0) k_v102 rfl rfl, cPre.use hw.2.1 hw.1 hw.2.2.1 hE⟩ rfl rfl hl.1 rfl (lv_room (Nat.le_of_ble_eq_true rfl)) dX11_countOfStanding_109 ⟨(Nat.le_of_ble_eq_true rfl), (Nat.le_of_ble_eq_true rfl)⟩) hw hA (fun _ _ h => h.2.2.1) (fun v109 w_1 H locs hp hw => ?_)
    obtain ⟨l_v109, h_v109, _, hm, x_v109_0⟩ := hp
    have hM := hM.trans hm (by decide) (by decide)
    have f_a0_X11_5 := hm.1 _ _ _ _ f_a0_X11_5 (by decide)
    have f_v1_X10_1 := hm.1 _ _ _ _ f_v1_X10_1 (by decide)
    have f_v1_X10_0 := hm.1 _ _ _ _ f_v1_X10_0 (by decide)
    have f_v4_X8_0 := hm.1 _ _ _ _ f_v4_X8_0 (by decide)
    refine lv_if_eq (tgt := 119) hx hb dX11_countOfStanding_112 (by decide) (fun c_112 => ?_) (fun c_112 => ?_)
    · simp only [fa_lt, fa_le, fa_eq, li_0] at c_112
      refine lv_iconst (v := 0) hx hb dX11_countOfStanding_119 (by decide) ?_
      rw [hQ]
      refine W.widen (k := 0) (n := 0) (Nat.le_refl _) (Nat.le_refl _) ?_
      exact W.iret (v := 0) hx hb hr (fun t ht hW => ⟨⟨0, w_1, rfl, ⟨hw.2.2.2.2, hM⟩, by rw [ht]; exact hw.2.1, va_K.moved hW.alike hw.1, hw.2.2.1⟩, hw.2.2.2.1.F ht⟩) hw.2.2.2.1.2.2 dX11_countOfStanding_120
    · simp only [fa_lt, fa_le, fa_eq, li_0] at c_112
      refine lv_iconst (v := 1) hx hb dX11_countOfStanding_115 (by decide) ?_
      refine lv_goto (tgt := 120) hx hb dX11_countOfStanding_116 (by decide) ?_
      rw [hQ]
      refine W.widen (k := 0) (n := 0) (Nat.le_refl _) (Nat.le_refl _) ?_
      exact W.iret (v := 1) hx hb hr (fun t ht hW => ⟨⟨1, w_1, rfl, ⟨hw.2.2.2.2, hM⟩, by rw [ht]; exact hw.2.1, va_K.moved hW.alike hw.1, hw.2.2.1⟩, hw.2.2.2.1.F ht⟩) hw.2.2.2.1.2.2 dX11_countOfStanding_120
  rcases Classical.em (a1.toInt = 14) with c_9_7 | c_9_7
  · refine lv_tableIn (tgt := 121) hx hb dX11_countOfStanding_9 (by omega) (by omega) (by rw [c_9_7]; rfl) (by decide) ?_
    refine lv_aload_n hx hb dX11_countOfStanding_121 rfl (lv_at hl 0 rfl) ?_
    refine t_geti (ci := 8) (C := RX8) (T := TX8) (N := 13) hx hb hts iX8 hown hw k_v4 rfl rfl rfl 6 (by decide) (hts _ tw_237) (fun _ h9 => h9) dX11_countOfStanding_122 rfl (fun v122 l_v122 h_v122 f_v4_X8_6 => ?_)
    have l_v122 : (-2147483648) ≤ v122.toInt := l_v122
    have h_v122 : v122.toInt ≤ 2147483647 := h_v122
    rw [hQ]
    refine W.widen (k := 0) (n := 0) (Nat.le_refl _) (Nat.le_refl _) ?_
    exact W.iret (v := v122) hx hb hr (fun t ht hW => ⟨⟨v122, ws, rfl, ⟨hw.2.2.2.2, hM⟩, by rw [ht]; exact hw.2.1, va_K.moved hW.alike hw.1, hw.2.2.1⟩, hw.2.2.2.1.F ht⟩) hw.2.2.2.1.2.2 dX11_countOfStanding_125
  rcases Classical.em (a1.toInt = 15) with c_9_8 | c_9_8
  · refine lv_tableIn (tgt := 126) hx hb dX11_countOfStanding_9 (by omega) (by omega) (by rw [c_9_8]; rfl) (by decide) ?_
    refine lv_aload_n hx hb dX11_countOfStanding_126 rfl (lv_at hl 0 rfl) ?_
    refine lv_aload_n hx hb dX11_countOfStanding_127 rfl (lv_at hl 1 rfl) ?_
    refine t_getk (ci := 11) (C := RX11) (T := TX11) (N := 12) hx hb hts iX11 hown hw rfl 5 (by decide) (hts _ tw_428) (fun _ h9 => h9) dX11_countOfStanding_128 f_a0_X11_5 ?_
    refine t_getr (k1 := 0) (ci := 10) (C := RX10) (T := TX10) (N := 8) hx hb hts iX10 hown hw k_v1 rfl rfl rfl 0 (by decide) (hts _ tw_282) (fun _ h9 => h9) dX11_countOfStanding_131 rfl (fun v131 k_v131 f_v1_X10_0 => ?_)
    refine t_geti (ci := 0) (C := RX0) (T := TX0) (N := 16) hx hb hts iX0 hown hw k_v131 rfl rfl rfl 3 (by decide) (hts _ tw_80) (fun _ h9 => h9) dX11_countOfStanding_134 rfl (fun v134 l_v134 h_v134 f_v131_X0_3 => ?_)
    have l_v134 : 0 ≤ v134.toInt := l_v134
    have h_v134 : v134.toInt ≤ 6 := h_v134
    refine t_calli (va_runV (As := [.int v134]) (rest := []) ⟨hx, hb, hml, hown, hts⟩ (t_X8_brokenVoices l dC dI tys κ B ws hw.2.2.2.2 v4 k_v4 v134 (by omega) (by omega) s.heap.size) (cwV 1 hts (gUV tw_1104 tw_769 tw_770 tw_8 tw_771) rfl rfl rfl (by decide +kernel) ⟨(Nat.le_of_ble_eq_true rfl), (Nat.le_of_ble_eq_true rfl)⟩) ⟨cPre.blind, t_recv hw (ci := 8) k_v4 rfl rfl, cPre.use hw.2.1 hw.1 hw.2.2.1 hE⟩ rfl rfl hl.1 rfl (lv_room (Nat.le_of_ble_eq_true rfl)) dX11_countOfStanding_137 ⟨(Nat.le_of_ble_eq_true rfl), (Nat.le_of_ble_eq_true rfl)⟩) hw hA (fun _ _ h => h.1) (fun v137 w_2 H locs hp hw => ?_)
    obtain ⟨_, hm⟩ := hp
    have l_v137 := i32_lo v137
    have h_v137 := i32_hi v137
    have hM := hM.trans hm (by decide) (by decide)
    have f_a0_X11_5 := hm.1 _ _ _ _ f_a0_X11_5 (by decide)
    have f_v1_X10_1 := hm.1 _ _ _ _ f_v1_X10_1 (by decide)
    have f_v1_X10_0 := hm.1 _ _ _ _ f_v1_X10_0 (by decide)
    have f_v131_X0_3 := hm.1 _ _ _ _ f_v131_X0_3 (by decide)
    rw [hQ]
    refine W.widen (k := 0) (n := 0) (Nat.le_refl _) (Nat.le_refl _) ?_
    exact W.iret (v := v137) hx hb hr (fun t ht hW => ⟨⟨v137, w_2, rfl, ⟨hw.2.2.2.2, hM⟩, by rw [ht]; exact hw.2.1, va_K.moved hW.alike hw.1, hw.2.2.1⟩, hw.2.2.2.1.F ht⟩) hw.2.2.2.1.2.2 dX11_countOfStanding_140
  · refine lv_tableOut (tgt := 141) hx hb dX11_countOfStanding_9 (by omega) (by decide) ?_
    refine lv_iconst (v := (-1)) hx hb dX11_countOfStanding_141 (by decide) ?_
    rw [hQ]
    refine W.widen (k := 0) (n := 0) (Nat.le_refl _) (Nat.le_refl _) ?_
    exact W.iret (v := (-1)) hx hb hr (fun t ht hW => ⟨⟨(-1), ws, rfl, ⟨hw.2.2.2.2, hM⟩, by rw [ht]; exact hw.2.1, va_K.moved hW.alike hw.1, hw.2.2.1⟩, hw.2.2.2.1.F ht⟩) hw.2.2.2.1.2.2 dX11_countOfStanding_142
