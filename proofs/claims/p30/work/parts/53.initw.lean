theorem tw_1124 : (Jvm.Cond.methodLink "BoyBishopModel" (1 : Nat) ({ cls := "java/lang/Object", name := "<init>", desc := "()V" } : Jvm.MethodName)) ∈ gT := gT_in (List.mem_append_right _ (List.mem_append_right _ (List.mem_append_right _ (List.mem_append_right _ (List.mem_append_right _ (List.mem_append_left _ (List.mem_of_getElem? (i := 164) rfl))))))) rfl
theorem tw_160 : (Jvm.Cond.classLink "BoyBishop" (23 : Nat) "BoyBishop$RuleReader") ∈ gT := gT_in (List.mem_append_right _ (List.mem_append_left _ (List.mem_of_getElem? (i := 160) rfl))) rfl
theorem tw_161 : (Jvm.Cond.instantiable "BoyBishop$RuleReader" (3 : Nat)) ∈ gT := gT_in (List.mem_append_right _ (List.mem_append_left _ (List.mem_of_getElem? (i := 161) rfl))) rfl
theorem tw_163 : (Jvm.Cond.instanceMethod ({ cls := "BoyBishop$RuleReader", name := "<init>", desc := "()V" } : Jvm.MethodName)) ∈ gT := gT_in (List.mem_append_right _ (List.mem_append_left _ (List.mem_of_getElem? (i := 163) rfl))) rfl
theorem tw_164 : (Jvm.Cond.code ({ cls := "BoyBishop$RuleReader", name := "<init>", desc := "()V" } : Jvm.MethodName) prog_9_method_1_code (1 : Nat) (Option.none : Option Jvm.ClassFile.FieldType)) ∈ gT := gT_in (List.mem_append_right _ (List.mem_append_left _ (List.mem_of_getElem? (i := 164) rfl))) rfl
theorem tw_176 : (Jvm.Cond.classLink "BoyBishop" (30 : Nat) "BoyBishop$Rule") ∈ gT := gT_in (List.mem_append_right _ (List.mem_append_left _ (List.mem_of_getElem? (i := 176) rfl))) rfl
theorem tw_178 : (Jvm.Cond.instantiable "BoyBishop$Rule" (7 : Nat)) ∈ gT := gT_in (List.mem_append_right _ (List.mem_append_left _ (List.mem_of_getElem? (i := 178) rfl))) rfl
theorem tw_179 : (Jvm.Cond.methodLink "BoyBishop" (36 : Nat) ({ cls := "BoyBishop$Rule", name := "<init>", desc := "()V" } : Jvm.MethodName)) ∈ gT := gT_in (List.mem_append_right _ (List.mem_append_left _ (List.mem_of_getElem? (i := 179) rfl))) rfl
theorem tw_180 : (Jvm.Cond.instanceMethod ({ cls := "BoyBishop$Rule", name := "<init>", desc := "()V" } : Jvm.MethodName)) ∈ gT := gT_in (List.mem_append_right _ (List.mem_append_left _ (List.mem_of_getElem? (i := 180) rfl))) rfl
theorem tw_181 : (Jvm.Cond.code ({ cls := "BoyBishop$Rule", name := "<init>", desc := "()V" } : Jvm.MethodName) prog_8_method_1_code (1 : Nat) (Option.none : Option Jvm.ClassFile.FieldType)) ∈ gT := gT_in (List.mem_append_right _ (List.mem_append_left _ (List.mem_of_getElem? (i := 181) rfl))) rfl
theorem tw_206 : (Jvm.Cond.classLink "BoyBishop" (37 : Nat) "BoyBishop$Whole") ∈ gT := gT_in (List.mem_append_right _ (List.mem_append_left _ (List.mem_of_getElem? (i := 206) rfl))) rfl
theorem tw_207 : (Jvm.Cond.instantiable "BoyBishop$Whole" (8 : Nat)) ∈ gT := gT_in (List.mem_append_right _ (List.mem_append_left _ (List.mem_of_getElem? (i := 207) rfl))) rfl
theorem tw_208 : (Jvm.Cond.classLink "BoyBishop" (39 : Nat) "BoyBishop$Choir") ∈ gT := gT_in (List.mem_append_right _ (List.mem_append_left _ (List.mem_of_getElem? (i := 208) rfl))) rfl
theorem tw_209 : (Jvm.Cond.methodLink "BoyBishop" (41 : Nat) ({ cls := "BoyBishop$Choir", name := "<init>", desc := "()V" } : Jvm.MethodName)) ∈ gT := gT_in (List.mem_append_right _ (List.mem_append_left _ (List.mem_of_getElem? (i := 209) rfl))) rfl
theorem tw_210 : (Jvm.Cond.methodLink "BoyBishop" (42 : Nat) ({ cls := "BoyBishop$Whole", name := "<init>", desc := "(LBoyBishop$Choir;)V" } : Jvm.MethodName)) ∈ gT := gT_in (List.mem_append_right _ (List.mem_append_left _ (List.mem_of_getElem? (i := 210) rfl))) rfl
theorem tw_211 : (Jvm.Cond.instanceMethod ({ cls := "BoyBishop$Whole", name := "<init>", desc := "(LBoyBishop$Choir;)V" } : Jvm.MethodName)) ∈ gT := gT_in (List.mem_append_right _ (List.mem_append_left _ (List.mem_of_getElem? (i := 211) rfl))) rfl
theorem tw_212 : (Jvm.Cond.code ({ cls := "BoyBishop$Whole", name := "<init>", desc := "(LBoyBishop$Choir;)V" } : Jvm.MethodName) prog_12_method_1_code (2 : Nat) (Option.none : Option Jvm.ClassFile.FieldType)) ∈ gT := gT_in (List.mem_append_right _ (List.mem_append_left _ (List.mem_of_getElem? (i := 212) rfl))) rfl
theorem tw_27 : (Jvm.Cond.methodLink "BoyBishop" (1 : Nat) ({ cls := "java/lang/Object", name := "<init>", desc := "()V" } : Jvm.MethodName)) ∈ gT := gT_in (List.mem_append_right _ (List.mem_append_left _ (List.mem_of_getElem? (i := 27) rfl))) rfl
theorem tw_30 : (Jvm.Cond.classLink "BoyBishop" (7 : Nat) "BoyBishop$Tape") ∈ gT := gT_in (List.mem_append_right _ (List.mem_append_left _ (List.mem_of_getElem? (i := 30) rfl))) rfl
theorem tw_31 : (Jvm.Cond.instantiable "BoyBishop$Tape" (4 : Nat)) ∈ gT := gT_in (List.mem_append_right _ (List.mem_append_left _ (List.mem_of_getElem? (i := 31) rfl))) rfl
theorem tw_318 : (Jvm.Cond.classLink "BoyBishop" (57 : Nat) "BoyBishop$Past") ∈ gT := gT_in (List.mem_append_right _ (List.mem_append_right _ (List.mem_append_left _ (List.mem_of_getElem? (i := 78) rfl)))) rfl
theorem tw_319 : (Jvm.Cond.instantiable "BoyBishop$Past" (3 : Nat)) ∈ gT := gT_in (List.mem_append_right _ (List.mem_append_right _ (List.mem_append_left _ (List.mem_of_getElem? (i := 79) rfl)))) rfl
theorem tw_32 : (Jvm.Cond.methodLink "BoyBishop" (9 : Nat) ({ cls := "BoyBishop$Tape", name := "<init>", desc := "()V" } : Jvm.MethodName)) ∈ gT := gT_in (List.mem_append_right _ (List.mem_append_left _ (List.mem_of_getElem? (i := 32) rfl))) rfl
theorem tw_320 : (Jvm.Cond.methodLink "BoyBishop" (59 : Nat) ({ cls := "BoyBishop$Past", name := "<init>", desc := "()V" } : Jvm.MethodName)) ∈ gT := gT_in (List.mem_append_right _ (List.mem_append_right _ (List.mem_append_left _ (List.mem_of_getElem? (i := 80) rfl)))) rfl
theorem tw_321 : (Jvm.Cond.instanceMethod ({ cls := "BoyBishop$Past", name := "<init>", desc := "()V" } : Jvm.MethodName)) ∈ gT := gT_in (List.mem_append_right _ (List.mem_append_right _ (List.mem_append_left _ (List.mem_of_getElem? (i := 81) rfl)))) rfl
theorem tw_322 : (Jvm.Cond.code ({ cls := "BoyBishop$Past", name := "<init>", desc := "()V" } : Jvm.MethodName) prog_6_method_1_code (2 : Nat) (Option.none : Option Jvm.ClassFile.FieldType)) ∈ gT := gT_in (List.mem_append_right _ (List.mem_append_right _ (List.mem_append_left _ (List.mem_of_getElem? (i := 82) rfl)))) rfl
theorem tw_33 : (Jvm.Cond.instanceMethod ({ cls := "BoyBishop$Tape", name := "<init>", desc := "()V" } : Jvm.MethodName)) ∈ gT := gT_in (List.mem_append_right _ (List.mem_append_left _ (List.mem_of_getElem? (i := 33) rfl))) rfl
theorem tw_338 : (Jvm.Cond.classLink "BoyBishop" (64 : Nat) "BoyBishop$Poll") ∈ gT := gT_in (List.mem_append_right _ (List.mem_append_right _ (List.mem_append_left _ (List.mem_of_getElem? (i := 98) rfl)))) rfl
theorem tw_339 : (Jvm.Cond.instantiable "BoyBishop$Poll" (8 : Nat)) ∈ gT := gT_in (List.mem_append_right _ (List.mem_append_right _ (List.mem_append_left _ (List.mem_of_getElem? (i := 99) rfl)))) rfl
theorem tw_34 : (Jvm.Cond.code ({ cls := "BoyBishop$Tape", name := "<init>", desc := "()V" } : Jvm.MethodName) prog_11_method_1_code (1 : Nat) (Option.none : Option Jvm.ClassFile.FieldType)) ∈ gT := gT_in (List.mem_append_right _ (List.mem_append_left _ (List.mem_of_getElem? (i := 34) rfl))) rfl
theorem tw_340 : (Jvm.Cond.methodLink "BoyBishop" (66 : Nat) ({ cls := "BoyBishop$Poll", name := "<init>", desc := "()V" } : Jvm.MethodName)) ∈ gT := gT_in (List.mem_append_right _ (List.mem_append_right _ (List.mem_append_left _ (List.mem_of_getElem? (i := 100) rfl)))) rfl
theorem tw_341 : (Jvm.Cond.instanceMethod ({ cls := "BoyBishop$Poll", name := "<init>", desc := "()V" } : Jvm.MethodName)) ∈ gT := gT_in (List.mem_append_right _ (List.mem_append_right _ (List.mem_append_left _ (List.mem_of_getElem? (i := 101) rfl)))) rfl
theorem tw_342 : (Jvm.Cond.code ({ cls := "BoyBishop$Poll", name := "<init>", desc := "()V" } : Jvm.MethodName) prog_7_method_1_code (1 : Nat) (Option.none : Option Jvm.ClassFile.FieldType)) ∈ gT := gT_in (List.mem_append_right _ (List.mem_append_right _ (List.mem_append_left _ (List.mem_of_getElem? (i := 102) rfl)))) rfl
theorem tw_373 : (Jvm.Cond.classLink "BoyBishop" (71 : Nat) "BoyBishop$Days") ∈ gT := gT_in (List.mem_append_right _ (List.mem_append_right _ (List.mem_append_left _ (List.mem_of_getElem? (i := 133) rfl)))) rfl
theorem tw_374 : (Jvm.Cond.instantiable "BoyBishop$Days" (4 : Nat)) ∈ gT := gT_in (List.mem_append_right _ (List.mem_append_right _ (List.mem_append_left _ (List.mem_of_getElem? (i := 134) rfl)))) rfl
theorem tw_375 : (Jvm.Cond.methodLink "BoyBishop" (73 : Nat) ({ cls := "BoyBishop$Days", name := "<init>", desc := "(LBoyBishop$Poll;)V" } : Jvm.MethodName)) ∈ gT := gT_in (List.mem_append_right _ (List.mem_append_right _ (List.mem_append_left _ (List.mem_of_getElem? (i := 135) rfl)))) rfl
theorem tw_376 : (Jvm.Cond.instanceMethod ({ cls := "BoyBishop$Days", name := "<init>", desc := "(LBoyBishop$Poll;)V" } : Jvm.MethodName)) ∈ gT := gT_in (List.mem_append_right _ (List.mem_append_right _ (List.mem_append_left _ (List.mem_of_getElem? (i := 136) rfl)))) rfl
theorem tw_377 : (Jvm.Cond.code ({ cls := "BoyBishop$Days", name := "<init>", desc := "(LBoyBishop$Poll;)V" } : Jvm.MethodName) prog_5_method_1_code (2 : Nat) (Option.none : Option Jvm.ClassFile.FieldType)) ∈ gT := gT_in (List.mem_append_right _ (List.mem_append_right _ (List.mem_append_left _ (List.mem_of_getElem? (i := 137) rfl)))) rfl
theorem tw_394 : (Jvm.Cond.classLink "BoyBishop" (80 : Nat) "BoyBishop$Chronicle") ∈ gT := gT_in (List.mem_append_right _ (List.mem_append_right _ (List.mem_append_left _ (List.mem_of_getElem? (i := 154) rfl)))) rfl
theorem tw_395 : (Jvm.Cond.instantiable "BoyBishop$Chronicle" (5 : Nat)) ∈ gT := gT_in (List.mem_append_right _ (List.mem_append_right _ (List.mem_append_left _ (List.mem_of_getElem? (i := 155) rfl)))) rfl
theorem tw_396 : (Jvm.Cond.methodLink "BoyBishop" (82 : Nat) ({ cls := "BoyBishop$Chronicle", name := "<init>", desc := "(LBoyBishop$Days;)V" } : Jvm.MethodName)) ∈ gT := gT_in (List.mem_append_right _ (List.mem_append_right _ (List.mem_append_left _ (List.mem_of_getElem? (i := 156) rfl)))) rfl
theorem tw_397 : (Jvm.Cond.instanceMethod ({ cls := "BoyBishop$Chronicle", name := "<init>", desc := "(LBoyBishop$Days;)V" } : Jvm.MethodName)) ∈ gT := gT_in (List.mem_append_right _ (List.mem_append_right _ (List.mem_append_left _ (List.mem_of_getElem? (i := 157) rfl)))) rfl
theorem tw_398 : (Jvm.Cond.code ({ cls := "BoyBishop$Chronicle", name := "<init>", desc := "(LBoyBishop$Days;)V" } : Jvm.MethodName) prog_4_method_1_code (2 : Nat) (Option.none : Option Jvm.ClassFile.FieldType)) ∈ gT := gT_in (List.mem_append_right _ (List.mem_append_right _ (List.mem_append_left _ (List.mem_of_getElem? (i := 158) rfl)))) rfl
theorem tw_421 : (Jvm.Cond.classLink "BoyBishop" (89 : Nat) "BoyBishop$Standing") ∈ gT := gT_in (List.mem_append_right _ (List.mem_append_right _ (List.mem_append_left _ (List.mem_of_getElem? (i := 181) rfl)))) rfl
theorem tw_422 : (Jvm.Cond.methodLink "BoyBishop" (91 : Nat) ({ cls := "BoyBishop$Standing", name := "<init>", desc := "()V" } : Jvm.MethodName)) ∈ gT := gT_in (List.mem_append_right _ (List.mem_append_right _ (List.mem_append_left _ (List.mem_of_getElem? (i := 182) rfl)))) rfl
theorem tw_56 : (Jvm.Cond.classLink "BoyBishop" (16 : Nat) "BoyBishop$ChoirReader") ∈ gT := gT_in (List.mem_append_right _ (List.mem_append_left _ (List.mem_of_getElem? (i := 56) rfl))) rfl
theorem tw_57 : (Jvm.Cond.instantiable "BoyBishop$ChoirReader" (1 : Nat)) ∈ gT := gT_in (List.mem_append_right _ (List.mem_append_left _ (List.mem_of_getElem? (i := 57) rfl))) rfl
theorem tw_58 : (Jvm.Cond.methodLink "BoyBishop" (18 : Nat) ({ cls := "BoyBishop$ChoirReader", name := "<init>", desc := "()V" } : Jvm.MethodName)) ∈ gT := gT_in (List.mem_append_right _ (List.mem_append_left _ (List.mem_of_getElem? (i := 58) rfl))) rfl
theorem tw_59 : (Jvm.Cond.instanceMethod ({ cls := "BoyBishop$ChoirReader", name := "<init>", desc := "()V" } : Jvm.MethodName)) ∈ gT := gT_in (List.mem_append_right _ (List.mem_append_left _ (List.mem_of_getElem? (i := 59) rfl))) rfl
theorem tw_60 : (Jvm.Cond.code ({ cls := "BoyBishop$ChoirReader", name := "<init>", desc := "()V" } : Jvm.MethodName) prog_3_method_1_code (1 : Nat) (Option.none : Option Jvm.ClassFile.FieldType)) ∈ gT := gT_in (List.mem_append_right _ (List.mem_append_left _ (List.mem_of_getElem? (i := 60) rfl))) rfl
theorem dX11_init_0 : decode cX11_init 0 = .ok (.aload_n 0, 1) := by decide +kernel
theorem dX11_init_1 : decode cX11_init 1 = .ok (.invokespecial 1, 3) := by decide +kernel
theorem dX11_init_4 : decode cX11_init 4 = .ok (.aload_n 0, 1) := by decide +kernel
theorem dX11_init_5 : decode cX11_init 5 = .ok (.new 7, 3) := by decide +kernel
theorem dX11_init_8 : decode cX11_init 8 = .ok (.dup, 1) := by decide +kernel
theorem dX11_init_9 : decode cX11_init 9 = .ok (.invokespecial 9, 3) := by decide +kernel
theorem dX11_init_12 : decode cX11_init 12 = .ok (.putfield 10, 3) := by decide +kernel
theorem dX11_init_15 : decode cX11_init 15 = .ok (.aload_n 0, 1) := by decide +kernel
theorem dX11_init_16 : decode cX11_init 16 = .ok (.new 16, 3) := by decide +kernel
theorem dX11_init_19 : decode cX11_init 19 = .ok (.dup, 1) := by decide +kernel
theorem dX11_init_20 : decode cX11_init 20 = .ok (.invokespecial 18, 3) := by decide +kernel
theorem dX11_init_23 : decode cX11_init 23 = .ok (.putfield 19, 3) := by decide +kernel
theorem dX11_init_26 : decode cX11_init 26 = .ok (.aload_n 0, 1) := by decide +kernel
theorem dX11_init_27 : decode cX11_init 27 = .ok (.new 23, 3) := by decide +kernel
theorem dX11_init_30 : decode cX11_init 30 = .ok (.dup, 1) := by decide +kernel
theorem dX11_init_31 : decode cX11_init 31 = .ok (.invokespecial 25, 3) := by decide +kernel
theorem dX11_init_34 : decode cX11_init 34 = .ok (.putfield 26, 3) := by decide +kernel
theorem dX11_init_37 : decode cX11_init 37 = .ok (.aload_n 0, 1) := by decide +kernel
theorem dX11_init_38 : decode cX11_init 38 = .ok (.bipush 6, 2) := by decide +kernel
theorem dX11_init_40 : decode cX11_init 40 = .ok (.anewarray 30, 3) := by decide +kernel
theorem dX11_init_43 : decode cX11_init 43 = .ok (.putfield 32, 3) := by decide +kernel
theorem dX11_init_46 : decode cX11_init 46 = .ok (.iconst 0, 1) := by decide +kernel
theorem dX11_init_47 : decode cX11_init 47 = .ok (.istore_n 1, 1) := by decide +kernel
theorem dX11_init_48 : decode cX11_init 48 = .ok (.iload_n 1, 1) := by decide +kernel
theorem dX11_init_49 : decode cX11_init 49 = .ok (.bipush 6, 2) := by decide +kernel
theorem dX11_init_51 : decode cX11_init 51 = .ok (.if_icmp .ge 22, 3) := by decide +kernel
theorem dX11_init_54 : decode cX11_init 54 = .ok (.aload_n 0, 1) := by decide +kernel
theorem dX11_init_55 : decode cX11_init 55 = .ok (.getfield 32, 3) := by decide +kernel
theorem dX11_init_58 : decode cX11_init 58 = .ok (.iload_n 1, 1) := by decide +kernel
theorem dX11_init_59 : decode cX11_init 59 = .ok (.new 30, 3) := by decide +kernel
theorem dX11_init_62 : decode cX11_init 62 = .ok (.dup, 1) := by decide +kernel
theorem dX11_init_63 : decode cX11_init 63 = .ok (.invokespecial 36, 3) := by decide +kernel
theorem dX11_init_66 : decode cX11_init 66 = .ok (.aastore, 1) := by decide +kernel
theorem dX11_init_67 : decode cX11_init 67 = .ok (.iinc 1 1, 3) := by decide +kernel
theorem dX11_init_70 : decode cX11_init 70 = .ok (.goto (-22), 3) := by decide +kernel
theorem dX11_init_73 : decode cX11_init 73 = .ok (.aload_n 0, 1) := by decide +kernel
theorem dX11_init_74 : decode cX11_init 74 = .ok (.new 37, 3) := by decide +kernel
theorem dX11_init_77 : decode cX11_init 77 = .ok (.dup, 1) := by decide +kernel
theorem dX11_init_78 : decode cX11_init 78 = .ok (.new 39, 3) := by decide +kernel
theorem dX11_init_81 : decode cX11_init 81 = .ok (.dup, 1) := by decide +kernel
theorem dX11_init_82 : decode cX11_init 82 = .ok (.invokespecial 41, 3) := by decide +kernel
theorem dX11_init_85 : decode cX11_init 85 = .ok (.invokespecial 42, 3) := by decide +kernel
theorem dX11_init_88 : decode cX11_init 88 = .ok (.putfield 45, 3) := by decide +kernel
theorem dX11_init_91 : decode cX11_init 91 = .ok (.aload_n 0, 1) := by decide +kernel
theorem dX11_init_92 : decode cX11_init 92 = .ok (.iconst 4, 1) := by decide +kernel
theorem dX11_init_93 : decode cX11_init 93 = .ok (.anewarray 37, 3) := by decide +kernel
theorem dX11_init_96 : decode cX11_init 96 = .ok (.putfield 49, 3) := by decide +kernel
theorem dX11_init_99 : decode cX11_init 99 = .ok (.iconst 0, 1) := by decide +kernel
theorem dX11_init_100 : decode cX11_init 100 = .ok (.istore_n 1, 1) := by decide +kernel
theorem dX11_init_101 : decode cX11_init 101 = .ok (.iload_n 1, 1) := by decide +kernel
theorem dX11_init_102 : decode cX11_init 102 = .ok (.iconst 4, 1) := by decide +kernel
theorem dX11_init_103 : decode cX11_init 103 = .ok (.if_icmp .ge 29, 3) := by decide +kernel
theorem dX11_init_106 : decode cX11_init 106 = .ok (.aload_n 0, 1) := by decide +kernel
theorem dX11_init_107 : decode cX11_init 107 = .ok (.getfield 49, 3) := by decide +kernel
theorem dX11_init_110 : decode cX11_init 110 = .ok (.iload_n 1, 1) := by decide +kernel
theorem dX11_init_111 : decode cX11_init 111 = .ok (.new 37, 3) := by decide +kernel
theorem dX11_init_114 : decode cX11_init 114 = .ok (.dup, 1) := by decide +kernel
theorem dX11_init_115 : decode cX11_init 115 = .ok (.aload_n 0, 1) := by decide +kernel
theorem dX11_init_116 : decode cX11_init 116 = .ok (.getfield 45, 3) := by decide +kernel
theorem dX11_init_119 : decode cX11_init 119 = .ok (.getfield 53, 3) := by decide +kernel
theorem dX11_init_122 : decode cX11_init 122 = .ok (.invokespecial 42, 3) := by decide +kernel
theorem dX11_init_125 : decode cX11_init 125 = .ok (.aastore, 1) := by decide +kernel
theorem dX11_init_126 : decode cX11_init 126 = .ok (.iinc 1 1, 3) := by decide +kernel
theorem dX11_init_129 : decode cX11_init 129 = .ok (.goto (-28), 3) := by decide +kernel
theorem dX11_init_132 : decode cX11_init 132 = .ok (.aload_n 0, 1) := by decide +kernel
theorem dX11_init_133 : decode cX11_init 133 = .ok (.new 57, 3) := by decide +kernel
theorem dX11_init_136 : decode cX11_init 136 = .ok (.dup, 1) := by decide +kernel
theorem dX11_init_137 : decode cX11_init 137 = .ok (.invokespecial 59, 3) := by decide +kernel
theorem dX11_init_140 : decode cX11_init 140 = .ok (.putfield 60, 3) := by decide +kernel
theorem dX11_init_143 : decode cX11_init 143 = .ok (.aload_n 0, 1) := by decide +kernel
theorem dX11_init_144 : decode cX11_init 144 = .ok (.new 64, 3) := by decide +kernel
theorem dX11_init_147 : decode cX11_init 147 = .ok (.dup, 1) := by decide +kernel
theorem dX11_init_148 : decode cX11_init 148 = .ok (.invokespecial 66, 3) := by decide +kernel
theorem dX11_init_151 : decode cX11_init 151 = .ok (.putfield 67, 3) := by decide +kernel
theorem dX11_init_154 : decode cX11_init 154 = .ok (.aload_n 0, 1) := by decide +kernel
theorem dX11_init_155 : decode cX11_init 155 = .ok (.new 71, 3) := by decide +kernel
theorem dX11_init_158 : decode cX11_init 158 = .ok (.dup, 1) := by decide +kernel
theorem dX11_init_159 : decode cX11_init 159 = .ok (.aload_n 0, 1) := by decide +kernel
theorem dX11_init_160 : decode cX11_init 160 = .ok (.getfield 67, 3) := by decide +kernel
theorem dX11_init_163 : decode cX11_init 163 = .ok (.invokespecial 73, 3) := by decide +kernel
theorem dX11_init_166 : decode cX11_init 166 = .ok (.putfield 76, 3) := by decide +kernel
theorem dX11_init_169 : decode cX11_init 169 = .ok (.aload_n 0, 1) := by decide +kernel
theorem dX11_init_170 : decode cX11_init 170 = .ok (.new 80, 3) := by decide +kernel
theorem dX11_init_173 : decode cX11_init 173 = .ok (.dup, 1) := by decide +kernel
theorem dX11_init_174 : decode cX11_init 174 = .ok (.aload_n 0, 1) := by decide +kernel
theorem dX11_init_175 : decode cX11_init 175 = .ok (.getfield 76, 3) := by decide +kernel
theorem dX11_init_178 : decode cX11_init 178 = .ok (.invokespecial 82, 3) := by decide +kernel
theorem dX11_init_181 : decode cX11_init 181 = .ok (.putfield 85, 3) := by decide +kernel
theorem dX11_init_184 : decode cX11_init 184 = .ok (.aload_n 0, 1) := by decide +kernel
theorem dX11_init_185 : decode cX11_init 185 = .ok (.new 89, 3) := by decide +kernel
theorem dX11_init_188 : decode cX11_init 188 = .ok (.dup, 1) := by decide +kernel
theorem dX11_init_189 : decode cX11_init 189 = .ok (.invokespecial 91, 3) := by decide +kernel
theorem dX11_init_192 : decode cX11_init 192 = .ok (.putfield 92, 3) := by decide +kernel
theorem dX11_init_195 : decode cX11_init 195 = .ok (.return_, 1) := by decide +kernel
theorem dX12_init_0 : decode cX12_init 0 = .ok (.aload_n 0, 1) := by decide +kernel
theorem dX12_init_1 : decode cX12_init 1 = .ok (.invokespecial 1, 3) := by decide +kernel
theorem dX12_init_4 : decode cX12_init 4 = .ok (.aload_n 0, 1) := by decide +kernel
theorem dX12_init_5 : decode cX12_init 5 = .ok (.sipush 400, 3) := by decide +kernel
theorem dX12_init_8 : decode cX12_init 8 = .ok (.newarray .byte, 2) := by decide +kernel
theorem dX12_init_10 : decode cX12_init 10 = .ok (.putfield 7, 3) := by decide +kernel
theorem dX12_init_13 : decode cX12_init 13 = .ok (.aload_n 0, 1) := by decide +kernel
theorem dX12_init_14 : decode cX12_init 14 = .ok (.sipush 2400, 3) := by decide +kernel
theorem dX12_init_17 : decode cX12_init 17 = .ok (.newarray .int, 2) := by decide +kernel
theorem dX12_init_19 : decode cX12_init 19 = .ok (.putfield 13, 3) := by decide +kernel
theorem dX12_init_22 : decode cX12_init 22 = .ok (.aload_n 0, 1) := by decide +kernel
theorem dX12_init_23 : decode cX12_init 23 = .ok (.bipush 7, 2) := by decide +kernel
theorem dX12_init_25 : decode cX12_init 25 = .ok (.newarray .int, 2) := by decide +kernel
theorem dX12_init_27 : decode cX12_init 27 = .ok (.putfield 17, 3) := by decide +kernel
theorem dX12_init_30 : decode cX12_init 30 = .ok (.aload_n 0, 1) := by decide +kernel
theorem dX12_init_31 : decode cX12_init 31 = .ok (.sipush 288, 3) := by decide +kernel
theorem dX12_init_34 : decode cX12_init 34 = .ok (.newarray .int, 2) := by decide +kernel
theorem dX12_init_36 : decode cX12_init 36 = .ok (.putfield 20, 3) := by decide +kernel
theorem dX12_init_39 : decode cX12_init 39 = .ok (.aload_n 0, 1) := by decide +kernel
theorem dX12_init_40 : decode cX12_init 40 = .ok (.bipush 6, 2) := by decide +kernel
theorem dX12_init_42 : decode cX12_init 42 = .ok (.newarray .int, 2) := by decide +kernel
theorem dX12_init_44 : decode cX12_init 44 = .ok (.putfield 23, 3) := by decide +kernel
theorem dX12_init_47 : decode cX12_init 47 = .ok (.aload_n 0, 1) := by decide +kernel
theorem dX12_init_48 : decode cX12_init 48 = .ok (.sipush 285, 3) := by decide +kernel
theorem dX12_init_51 : decode cX12_init 51 = .ok (.newarray .int, 2) := by decide +kernel
theorem dX12_init_53 : decode cX12_init 53 = .ok (.putfield 26, 3) := by decide +kernel
theorem dX12_init_56 : decode cX12_init 56 = .ok (.aload_n 0, 1) := by decide +kernel
theorem dX12_init_57 : decode cX12_init 57 = .ok (.sipush 400, 3) := by decide +kernel
theorem dX12_init_60 : decode cX12_init 60 = .ok (.newarray .int, 2) := by decide +kernel
theorem dX12_init_62 : decode cX12_init 62 = .ok (.putfield 29, 3) := by decide +kernel
theorem dX12_init_65 : decode cX12_init 65 = .ok (.aload_n 0, 1) := by decide +kernel
theorem dX12_init_66 : decode cX12_init 66 = .ok (.bipush 64, 2) := by decide +kernel
theorem dX12_init_68 : decode cX12_init 68 = .ok (.newarray .long, 2) := by decide +kernel
theorem dX12_init_70 : decode cX12_init 70 = .ok (.putfield 32, 3) := by decide +kernel
theorem dX12_init_73 : decode cX12_init 73 = .ok (.aload_n 0, 1) := by decide +kernel
theorem dX12_init_74 : decode cX12_init 74 = .ok (.bipush 11, 2) := by decide +kernel
theorem dX12_init_76 : decode cX12_init 76 = .ok (.newarray .long, 2) := by decide +kernel
theorem dX12_init_78 : decode cX12_init 78 = .ok (.putfield 36, 3) := by decide +kernel
theorem dX12_init_81 : decode cX12_init 81 = .ok (.aload_n 0, 1) := by decide +kernel
theorem dX12_init_82 : decode cX12_init 82 = .ok (.sipush 306, 3) := by decide +kernel
theorem dX12_init_85 : decode cX12_init 85 = .ok (.newarray .int, 2) := by decide +kernel
theorem dX12_init_87 : decode cX12_init 87 = .ok (.putfield 39, 3) := by decide +kernel
theorem dX12_init_90 : decode cX12_init 90 = .ok (.aload_n 0, 1) := by decide +kernel
theorem dX12_init_91 : decode cX12_init 91 = .ok (.iconst (-1), 1) := by decide +kernel
theorem dX12_init_92 : decode cX12_init 92 = .ok (.putfield 42, 3) := by decide +kernel
theorem dX12_init_95 : decode cX12_init 95 = .ok (.aload_n 0, 1) := by decide +kernel
theorem dX12_init_96 : decode cX12_init 96 = .ok (.bipush 6, 2) := by decide +kernel
theorem dX12_init_98 : decode cX12_init 98 = .ok (.newarray .int, 2) := by decide +kernel
theorem dX12_init_100 : decode cX12_init 100 = .ok (.putfield 46, 3) := by decide +kernel
theorem dX12_init_103 : decode cX12_init 103 = .ok (.aload_n 0, 1) := by decide +kernel
theorem dX12_init_104 : decode cX12_init 104 = .ok (.sipush 840, 3) := by decide +kernel
theorem dX12_init_107 : decode cX12_init 107 = .ok (.newarray .int, 2) := by decide +kernel
theorem dX12_init_109 : decode cX12_init 109 = .ok (.putfield 49, 3) := by decide +kernel
theorem dX12_init_112 : decode cX12_init 112 = .ok (.aload_n 0, 1) := by decide +kernel
theorem dX12_init_113 : decode cX12_init 113 = .ok (.bipush 42, 2) := by decide +kernel
theorem dX12_init_115 : decode cX12_init 115 = .ok (.newarray .int, 2) := by decide +kernel
theorem dX12_init_117 : decode cX12_init 117 = .ok (.putfield 52, 3) := by decide +kernel
theorem dX12_init_120 : decode cX12_init 120 = .ok (.aload_n 0, 1) := by decide +kernel
theorem dX12_init_121 : decode cX12_init 121 = .ok (.bipush 36, 2) := by decide +kernel
theorem dX12_init_123 : decode cX12_init 123 = .ok (.newarray .long, 2) := by decide +kernel
theorem dX12_init_125 : decode cX12_init 125 = .ok (.putfield 55, 3) := by decide +kernel
theorem dX12_init_128 : decode cX12_init 128 = .ok (.aload_n 0, 1) := by decide +kernel
theorem dX12_init_129 : decode cX12_init 129 = .ok (.bipush 25, 2) := by decide +kernel
theorem dX12_init_131 : decode cX12_init 131 = .ok (.newarray .int, 2) := by decide +kernel
theorem dX12_init_133 : decode cX12_init 133 = .ok (.putfield 58, 3) := by decide +kernel
theorem dX12_init_136 : decode cX12_init 136 = .ok (.aload_n 0, 1) := by decide +kernel
theorem dX12_init_137 : decode cX12_init 137 = .ok (.sipush 384, 3) := by decide +kernel
theorem dX12_init_140 : decode cX12_init 140 = .ok (.newarray .int, 2) := by decide +kernel
theorem dX12_init_142 : decode cX12_init 142 = .ok (.putfield 61, 3) := by decide +kernel
theorem dX12_init_145 : decode cX12_init 145 = .ok (.aload_n 0, 1) := by decide +kernel
theorem dX12_init_146 : decode cX12_init 146 = .ok (.bipush 7, 2) := by decide +kernel
theorem dX12_init_148 : decode cX12_init 148 = .ok (.newarray .boolean, 2) := by decide +kernel
theorem dX12_init_150 : decode cX12_init 150 = .ok (.putfield 64, 3) := by decide +kernel
theorem dX12_init_153 : decode cX12_init 153 = .ok (.aload_n 0, 1) := by decide +kernel
theorem dX12_init_154 : decode cX12_init 154 = .ok (.sipush 427, 3) := by decide +kernel
theorem dX12_init_157 : decode cX12_init 157 = .ok (.newarray .int, 2) := by decide +kernel
theorem dX12_init_159 : decode cX12_init 159 = .ok (.putfield 68, 3) := by decide +kernel
theorem dX12_init_162 : decode cX12_init 162 = .ok (.aload_n 0, 1) := by decide +kernel
theorem dX12_init_163 : decode cX12_init 163 = .ok (.sipush 1224, 3) := by decide +kernel
theorem dX12_init_166 : decode cX12_init 166 = .ok (.newarray .int, 2) := by decide +kernel
theorem dX12_init_168 : decode cX12_init 168 = .ok (.putfield 71, 3) := by decide +kernel
theorem dX12_init_171 : decode cX12_init 171 = .ok (.aload_n 0, 1) := by decide +kernel
theorem dX12_init_172 : decode cX12_init 172 = .ok (.iconst 4, 1) := by decide +kernel
theorem dX12_init_173 : decode cX12_init 173 = .ok (.newarray .int, 2) := by decide +kernel
theorem dX12_init_175 : decode cX12_init 175 = .ok (.putfield 74, 3) := by decide +kernel
theorem dX12_init_178 : decode cX12_init 178 = .ok (.aload_n 0, 1) := by decide +kernel
theorem dX12_init_179 : decode cX12_init 179 = .ok (.iconst 4, 1) := by decide +kernel
theorem dX12_init_180 : decode cX12_init 180 = .ok (.newarray .int, 2) := by decide +kernel
theorem dX12_init_182 : decode cX12_init 182 = .ok (.putfield 77, 3) := by decide +kernel
theorem dX12_init_185 : decode cX12_init 185 = .ok (.aload_n 0, 1) := by decide +kernel
theorem dX12_init_186 : decode cX12_init 186 = .ok (.iconst 4, 1) := by decide +kernel
theorem dX12_init_187 : decode cX12_init 187 = .ok (.newarray .boolean, 2) := by decide +kernel
theorem dX12_init_189 : decode cX12_init 189 = .ok (.putfield 80, 3) := by decide +kernel
theorem dX12_init_192 : decode cX12_init 192 = .ok (.return_, 1) := by decide +kernel
theorem dfX1 : ∀ j, j < 1 → defaultValue (tyX1 j) = vp_V [.null] j
  | 0, _ => rfl
  | _ + 1, h => absurd h (by omega)
theorem dfX10 : ∀ j, j < 8 → defaultValue (tyX10 j) = vp_V [.null, .null, .int 0, .int 0, .int 0, .null, .null, .int 0] j
  | 0, _ => rfl
  | 1, _ => rfl
  | 2, _ => rfl
  | 3, _ => rfl
  | 4, _ => rfl
  | 5, _ => rfl
  | 6, _ => rfl
  | 7, _ => rfl
  | _ + 8, h => absurd h (by omega)
theorem dfX2 : ∀ j, j < 5 → defaultValue (tyX2 j) = vp_V [.null, .null, .null, .null, .int 0] j
  | 0, _ => rfl
  | 1, _ => rfl
  | 2, _ => rfl
  | 3, _ => rfl
  | 4, _ => rfl
  | _ + 5, h => absurd h (by omega)
theorem dfX3 : ∀ j, j < 4 → defaultValue (tyX3 j) = vp_V [.null, .long 0, .int 0, .int 0] j
  | 0, _ => rfl
  | 1, _ => rfl
  | 2, _ => rfl
  | 3, _ => rfl
  | _ + 4, h => absurd h (by omega)
theorem dfX4 : ∀ j, j < 3 → defaultValue (tyX4 j) = vp_V [.null, .int 0, .int 0] j
  | 0, _ => rfl
  | 1, _ => rfl
  | 2, _ => rfl
  | _ + 3, h => absurd h (by omega)
theorem dfX5 : ∀ j, j < 8 → defaultValue (tyX5 j) = vp_V [.int 0, .int 0, .null, .null, .null, .int 0, .null, .null] j
  | 0, _ => rfl
  | 1, _ => rfl
  | 2, _ => rfl
  | 3, _ => rfl
  | 4, _ => rfl
  | 5, _ => rfl
  | 6, _ => rfl
  | 7, _ => rfl
  | _ + 8, h => absurd h (by omega)
theorem dfX6 : ∀ j, j < 7 → defaultValue (tyX6 j) = vp_V [.null, .int 0, .null, .null, .null, .int 0, .null] j
  | 0, _ => rfl
  | 1, _ => rfl
  | 2, _ => rfl
  | 3, _ => rfl
  | 4, _ => rfl
  | 5, _ => rfl
  | 6, _ => rfl
  | _ + 7, h => absurd h (by omega)
theorem dfX7 : ∀ j, j < 3 → defaultValue (tyX7 j) = vp_V [.null, .null, .int 0] j
  | 0, _ => rfl
  | 1, _ => rfl
  | 2, _ => rfl
  | _ + 3, h => absurd h (by omega)
theorem dfX9 : ∀ j, j < 4 → defaultValue (tyX9 j) = vp_V [.null, .int 0, .int 0, .int 0] j
  | 0, _ => rfl
  | 1, _ => rfl
  | 2, _ => rfl
  | 3, _ => rfl
  | _ + 4, h => absurd h (by omega)
set_option maxHeartbeats 4000000 in
set_option maxRecDepth 100000 in
theorem k_X11_init (l : Launch) (dC : Nat → ClassId) (dI : Nat → Nat → Nat) (tys : List (ClassId × FieldType)) (κ : tK) (B : Nat) (ws : va_W) (hT : Ty κ tys B ws) (a0 : Nat) (n_a0 : κ a0 = none) (c_a0 : cAt ws a0 (.inr (11, [.null, .null, .null, .null, .int 0, .null, .null, .null, .null, .null, .null, .null]))) (sz : Nat) : Met l yX11_init (ws_u yX11_init cX11_init 2 none) ({ frames := 3, cells := 280, slots := 5581, locals := 69 }) (va_Pc [.ref a0] (cPre (dC, dI) tys ws sz)) (va_Qv (fun (u : va_W × tK × List (ClassId × FieldType)) => Ty u.2.1 u.2.2 B u.1 ∧ SubT tys u.2.2 ∧ Gr κ u.2.1 ws u.1 a0 ∧ u.2.1 a0 = some 11 ∧ BXS u.2.1 u.1 a0 0 (fun _ => 0) (fun _ => False)) (fun u t => cPost (dC, dI) u.2.2 u.1 (va_A ws sz) t) (va_A ws sz)) 280 5581 (va_A ws sz) := by
  refine Met.ofW (cc := cX11_init) (maxL := 2) (ret := none) (by decide) rfl ?_
  intro p e s m args below meth c s₁ B0 hml hv
  obtain ⟨rfl, hsz, hP, hK, hD0, hE⟩ := hv
  have hx := B0.exec
  have hb := B0.bytes
  have hr := B0.returns
  have hts0 := atoms_spec (ws := ws_u yX11_init cX11_init 2 none) B0.pre
  have hts : ∀ w ∈ gT, w.before _ s = true := fun w h => hts0 w (List.mem_cons_of_mem _ h)
  have hown : s.vm.findClass RX11 = some m.cls := findClass_of_methodNamed B0.named
  have hin : meth.name = "<init>" := (name_of_methodNamed B0.named B0.method).1
  subst hsz
  have hD := hD0.self (sz := s.heap.size)
  generalize hAe : va_A ws s.heap.size = A at hD ⊢
  have hA : ∀ q : Nat, s.heap.size ≤ q → A q := fun q h => by rw [← hAe]; exact Or.inr h
  have hw : tW (dC, dI) tys κ B A s ws s.heap [] := ⟨hK, hP, hD, va_S.rf, hT⟩
  have hG : Gr κ κ ws ws a0 := Gr.rf
  have hTs : SubT tys tys := SubT.rf
  clear hP hK hD hD0 hts0
  have hl := lv_entry ([.ref a0]) (n := 2) (Nat.le_of_ble_eq_true rfl)
  rw [lg_entry_eq]
  generalize (lg_sl ([.ref a0]) ++ List.replicate (2 - (lg_sl ([.ref a0])).length) Slot.unset).toArray = ls at hl ⊢
  have hl : lv_has ls 2 [(0, .ref a0)] := hl
  refine lv_aload_n hx hb dX11_init_0 rfl (lv_at hl 0 rfl) ?_
  refine W.objInit hx hb hown (hts _ tw_27) (hts _ tw_28) (hts _ tw_29) rfl (by rw [hml]; exact hl.1) rfl dX11_init_1 (Nat.le_of_ble_eq_true rfl) (Nat.le_of_ble_eq_true rfl) ?_
  refine W.eq (g2 := F0 m 4 ls []) rfl ?_
  refine lv_aload_n hx hb dX11_init_4 rfl (lv_at hl 0 rfl) ?_
  refine va_new (ci := 9) (fs := [.null, .int 0, .int 0, .int 0]) (C := RX9) (T := TX9) (N := 4) hx hb hts iX9 tyX9 tyX9_ok hown (hts _ tw_30) (hts _ tw_31) (hts _ tw_2) hw.1 hw.2.1 hw.2.2.1 hw.2.2.2.1 hA rfl dfX9 (Nat.le_of_ble_eq_true rfl) (Nat.le_of_ble_eq_true rfl) dX11_init_5 (fun q_1 H hP hD hS => ?_)
  have hf := fr_new hD
  have ne_a0_q_1 : a0 ≠ q_1 := fun z => hf _ (z ▸ c_a0)
  have n_q_1 := hw.2.2.2.2.nn0 hf
  have z_q_1 := hG.fresh c_a0 hf
  have hG := hG.app (w1 := [(q_1, .inr (9, [.null, .int 0, .int 0, .int 0]))])
  have c_a0 := c_a0.app (w1 := [(q_1, .inr (9, [.null, .int 0, .int 0, .int 0]))])
  have c_q_1 : cAt (ws ++ [(q_1, .inr (9, [.null, .int 0, .int 0, .int 0]))]) q_1 (.inr (9, [.null, .int 0, .int 0, .int 0])) := cAt_last
  have hw : tW (dC, dI) tys κ B A s (ws ++ [(q_1, .inr (9, [.null, .int 0, .int 0, .int 0]))]) H [] := ⟨hw.1, hP, hD, hS, hw.2.2.2.2.appT SubT.rf⟩
  clear hf hP hD hS
  generalize (ws ++ [(q_1, .inr (9, [.null, .int 0, .int 0, .int 0]))]) = w_2 at hw hG c_q_1 c_a0
  refine lv_dup hx hb dX11_init_8 rfl ?_
  refine t_callK (va_runI (As := []) (rest := [.ref q_1, .ref a0]) ⟨hx, hb, hml, hown, hts⟩ (k_X9_init l dC dI tys κ B w_2 hw.2.2.2.2 q_1 n_q_1 c_q_1  H.size) (cwI 0 hts (gU tw_34) rfl rfl rfl (hts _ tw_2) (hts _ tw_32) (hts _ tw_33) rfl (by decide +kernel) ⟨(Nat.le_of_ble_eq_true rfl), (Nat.le_of_ble_eq_true rfl)⟩) ⟨cPre.blind, cPre.use hw.2.1 hw.1 hw.2.2.1 hE⟩ rfl rfl hl.1 rfl (lv_room (Nat.le_of_ble_eq_true rfl)) dX11_init_9 ⟨(Nat.le_of_ble_eq_true rfl), (Nat.le_of_ble_eq_true rfl)⟩) hw hA (fun _ h => h.1) (fun u H locs hp hw => ?_)
  obtain ⟨w_3, κ_4, y_5⟩ := u
  obtain ⟨_, hTs1, hGc, kn_q_1⟩ := hp
  dsimp only at hTs1 hGc kn_q_1 hw
  have hG := hG.call hGc z_q_1
  have hTs := hTs.trans hTs1
  have n_a0 := (hGc.2 _ _ ne_a0_q_1 c_a0).2 n_a0
  have c_a0 := (hGc.2 _ _ ne_a0_q_1 c_a0).1
  have k_q_1 := kn_q_1
  clear kn_q_1 c_q_1 n_q_1
  refine t_putUF (ci := 11) (v := .ref q_1) (C := RX11) (T := TX11) (N := 12) hx hb hts iX11 tyX11 tyX11_ok nmX11 hown hw c_a0 n_a0 rfl 0 (by decide) (hts _ tw_423) (fun _ h9 => h9) rfl hin rfl (tyX11_ok 0 (by decide)) rfl rfl (Nat.le_of_ble_eq_true rfl) dX11_init_12 (fun w_6 H locs hw hk c_a0 => ?_)
  have c_a0 : cAt w_6 a0 (.inr (11, [.ref q_1, .null, .null, .null, .int 0, .null, .null, .null, .null, .null, .null, .null])) := c_a0
  have hG := hG.set hk (Or.inl rfl)
  refine lv_aload_n hx hb dX11_init_15 rfl (lv_at hl 0 rfl) ?_
  refine va_new (ci := 1) (fs := [.null]) (C := RX1) (T := TX1) (N := 1) hx hb hts iX1 tyX1 tyX1_ok hown (hts _ tw_56) (hts _ tw_57) (hts _ tw_3) hw.1 hw.2.1 hw.2.2.1 hw.2.2.2.1 hA rfl dfX1 (Nat.le_of_ble_eq_true rfl) (Nat.le_of_ble_eq_true rfl) dX11_init_16 (fun q_7 H hP hD hS => ?_)
  have hf := fr_new hD
  have ne_a0_q_7 : a0 ≠ q_7 := fun z => hf _ (z ▸ c_a0)
  have n_q_7 := hw.2.2.2.2.nn0 hf
  have z_q_7 := hG.fresh c_a0 hf
  have hG := hG.app (w1 := [(q_7, .inr (1, [.null]))])
  have c_a0 := c_a0.app (w1 := [(q_7, .inr (1, [.null]))])
  have c_q_7 : cAt (w_6 ++ [(q_7, .inr (1, [.null]))]) q_7 (.inr (1, [.null])) := cAt_last
  have hw : tW (dC, dI) y_5 κ_4 B A s (w_6 ++ [(q_7, .inr (1, [.null]))]) H locs := ⟨hw.1, hP, hD, hS, hw.2.2.2.2.appT SubT.rf⟩
  clear hf hP hD hS
  generalize (w_6 ++ [(q_7, .inr (1, [.null]))]) = w_8 at hw hG c_q_7 c_a0
  refine lv_dup hx hb dX11_init_19 rfl ?_
  refine t_callK (va_runI (As := []) (rest := [.ref q_7, .ref a0]) ⟨hx, hb, hml, hown, hts⟩ (k_X1_init l dC dI y_5 κ_4 B w_8 hw.2.2.2.2 q_7 n_q_7 c_q_7  H.size) (cwI 0 hts (gU tw_60) rfl rfl rfl (hts _ tw_3) (hts _ tw_58) (hts _ tw_59) rfl (by decide +kernel) ⟨(Nat.le_of_ble_eq_true rfl), (Nat.le_of_ble_eq_true rfl)⟩) ⟨cPre.blind, cPre.use hw.2.1 hw.1 hw.2.2.1 hE⟩ rfl rfl hl.1 rfl (lv_room (Nat.le_of_ble_eq_true rfl)) dX11_init_20 ⟨(Nat.le_of_ble_eq_true rfl), (Nat.le_of_ble_eq_true rfl)⟩) hw hA (fun _ h => h.1) (fun u H locs hp hw => ?_)
  obtain ⟨w_9, κ_10, y_11⟩ := u
  obtain ⟨_, hTs1, hGc, kn_q_7⟩ := hp
  dsimp only at hTs1 hGc kn_q_7 hw
  have hG := hG.call hGc z_q_7
  have hTs := hTs.trans hTs1
  have k_q_1 := hGc.1 _ _ k_q_1
  have n_a0 := (hGc.2 _ _ ne_a0_q_7 c_a0).2 n_a0
  have c_a0 := (hGc.2 _ _ ne_a0_q_7 c_a0).1
  have k_q_7 := kn_q_7
  clear kn_q_7 c_q_7 n_q_7
  refine t_putUF (ci := 11) (v := .ref q_7) (C := RX11) (T := TX11) (N := 12) hx hb hts iX11 tyX11 tyX11_ok nmX11 hown hw c_a0 n_a0 rfl 1 (by decide) (hts _ tw_424) (fun _ h9 => h9) rfl hin rfl (tyX11_ok 1 (by decide)) rfl rfl (Nat.le_of_ble_eq_true rfl) dX11_init_23 (fun w_12 H locs hw hk c_a0 => ?_)
  have c_a0 : cAt w_12 a0 (.inr (11, [.ref q_1, .ref q_7, .null, .null, .int 0, .null, .null, .null, .null, .null, .null, .null])) := c_a0
  have hG := hG.set hk (Or.inl rfl)
  refine lv_aload_n hx hb dX11_init_26 rfl (lv_at hl 0 rfl) ?_
  refine va_new (ci := 7) (fs := [.null, .null, .int 0]) (C := RX7) (T := TX7) (N := 3) hx hb hts iX7 tyX7 tyX7_ok hown (hts _ tw_160) (hts _ tw_161) (hts _ tw_5) hw.1 hw.2.1 hw.2.2.1 hw.2.2.2.1 hA rfl dfX7 (Nat.le_of_ble_eq_true rfl) (Nat.le_of_ble_eq_true rfl) dX11_init_27 (fun q_13 H hP hD hS => ?_)
  have hf := fr_new hD
  have ne_a0_q_13 : a0 ≠ q_13 := fun z => hf _ (z ▸ c_a0)
  have n_q_13 := hw.2.2.2.2.nn0 hf
  have z_q_13 := hG.fresh c_a0 hf
  have hG := hG.app (w1 := [(q_13, .inr (7, [.null, .null, .int 0]))])
  have c_a0 := c_a0.app (w1 := [(q_13, .inr (7, [.null, .null, .int 0]))])
  have c_q_13 : cAt (w_12 ++ [(q_13, .inr (7, [.null, .null, .int 0]))]) q_13 (.inr (7, [.null, .null, .int 0])) := cAt_last
  have hw : tW (dC, dI) y_11 κ_10 B A s (w_12 ++ [(q_13, .inr (7, [.null, .null, .int 0]))]) H locs := ⟨hw.1, hP, hD, hS, hw.2.2.2.2.appT SubT.rf⟩
  clear hf hP hD hS
  generalize (w_12 ++ [(q_13, .inr (7, [.null, .null, .int 0]))]) = w_14 at hw hG c_q_13 c_a0
  refine lv_dup hx hb dX11_init_30 rfl ?_
  refine t_callK (va_runIN (As := []) (rest := [.ref q_13, .ref a0]) ⟨hx, hb, hml, hown, hts⟩ (k_X7_init l dC dI y_11 κ_10 B w_14 hw.2.2.2.2 q_13 n_q_13 c_q_13  H.size) ⟨va_cnB 0 hts (gU tw_164) rfl rfl rfl hE.nest (hts _ tw_5) (by decide +kernel) ⟨(Nat.le_of_ble_eq_true rfl), (Nat.le_of_ble_eq_true rfl)⟩, rfl, (hts _ tw_163)⟩ ⟨cPre.blind, cPre.use hw.2.1 hw.1 hw.2.2.1 hE⟩ rfl rfl hl.1 rfl (lv_room (Nat.le_of_ble_eq_true rfl)) dX11_init_31 ⟨(Nat.le_of_ble_eq_true rfl), (Nat.le_of_ble_eq_true rfl)⟩) hw hA (fun _ h => h.1) (fun u H locs hp hw => ?_)
  obtain ⟨w_15, κ_16, y_17⟩ := u
  obtain ⟨_, hTs1, hGc, kn_q_13⟩ := hp
  dsimp only at hTs1 hGc kn_q_13 hw
  have hG := hG.call hGc z_q_13
  have hTs := hTs.trans hTs1
  have k_q_1 := hGc.1 _ _ k_q_1
  have k_q_7 := hGc.1 _ _ k_q_7
  have n_a0 := (hGc.2 _ _ ne_a0_q_13 c_a0).2 n_a0
  have c_a0 := (hGc.2 _ _ ne_a0_q_13 c_a0).1
  have k_q_13 := kn_q_13
  clear kn_q_13 c_q_13 n_q_13
  refine t_putUF (ci := 11) (v := .ref q_13) (C := RX11) (T := TX11) (N := 12) hx hb hts iX11 tyX11 tyX11_ok nmX11 hown hw c_a0 n_a0 rfl 2 (by decide) (hts _ tw_425) (fun _ h9 => h9) rfl hin rfl (tyX11_ok 2 (by decide)) rfl rfl (Nat.le_of_ble_eq_true rfl) dX11_init_34 (fun w_18 H locs hw hk c_a0 => ?_)
  have c_a0 : cAt w_18 a0 (.inr (11, [.ref q_1, .ref q_7, .ref q_13, .null, .int 0, .null, .null, .null, .null, .null, .null, .null])) := c_a0
  have hG := hG.set hk (Or.inl rfl)
  refine lv_aload_n hx hb dX11_init_37 rfl (lv_at hl 0 rfl) ?_
  refine lv_bipush (v := 6) hx hb dX11_init_38 (by decide) ?_
  refine va_newq (D := (dC, dI)) (C := RX6) (N' := 6) hx hb hown (hts _ tw_176) hE.aoX6 hw.1 hw.2.1 hw.2.2.1 hw.2.2.2.1 hA (by decide) (by decide) (Nat.le_of_ble_eq_true rfl) (Nat.le_of_ble_eq_true rfl) (Nat.le_of_ble_eq_true rfl) dX11_init_40 (fun q_19 k_20 H hK hP hD hS => ?_)
  have t_q_19 : ∃ t0 : Nat, (y_17 ++ [(k_20, .object RX6)])[t0]? = some (k_20, .object RX6) := ⟨_, at_last⟩
  have hf := fr_new hD
  have ne_a0_q_19 : a0 ≠ q_19 := fun z => hf _ (z ▸ c_a0)
  have n_q_19 := hw.2.2.2.2.nn0 hf
  have z_q_19 := hG.fresh c_a0 hf
  have hG := hG.app (w1 := [(q_19, .inl (k_20, 6, .inr (.inr (.inr (.inr (fun _ => none))))))])
  have c_a0 := c_a0.app (w1 := [(q_19, .inl (k_20, 6, .inr (.inr (.inr (.inr (fun _ => none))))))])
  have hTs := hTs.trans (SubT.app (t' := [(k_20, .object RX6)]))
  have c_q_19 : cAt (w_18 ++ [(q_19, .inl (k_20, 6, .inr (.inr (.inr (.inr (fun _ => none))))))]) q_19 (.inl (k_20, 6, .inr (.inr (.inr (.inr (fun _ => none)))))) := cAt_last
  have hw : tW (dC, dI) (y_17 ++ [(k_20, .object RX6)]) κ_16 B A s (w_18 ++ [(q_19, .inl (k_20, 6, .inr (.inr (.inr (.inr (fun _ => none))))))]) H locs := ⟨hK, hP, hD, hS, hw.2.2.2.2.appT (SubT.app (t' := [(k_20, .object RX6)]))⟩
  clear hf hP hD hS hK
  generalize (w_18 ++ [(q_19, .inl (k_20, 6, .inr (.inr (.inr (.inr (fun _ => none))))))]) = w_21 at hw hG c_q_19 c_a0
  generalize (y_17 ++ [(k_20, .object RX6)]) = y_22 at hw hTs t_q_19
  have hF_q_19 : fil κ_16 (fun _ => none) 0 6 := fil.nil
  refine t_putUF (ci := 11) (v := .ref q_19) (C := RX11) (T := TX11) (N := 12) hx hb hts iX11 tyX11 tyX11_ok nmX11 hown hw c_a0 n_a0 rfl 3 (by decide) (hts _ tw_426) (fun _ h9 => h9) rfl hin rfl (tyX11_ok 3 (by decide)) rfl rfl (Nat.le_of_ble_eq_true rfl) dX11_init_43 (fun w_23 H locs hw hk c_a0 => ?_)
  have c_a0 : cAt w_23 a0 (.inr (11, [.ref q_1, .ref q_7, .ref q_13, .ref q_19, .int 0, .null, .null, .null, .null, .null, .null, .null])) := c_a0
  have hG := hG.set hk (Or.inl rfl)
  have c_q_19 := hk _ _ (Ne.symm ne_a0_q_19) c_q_19
  refine lv_iconst (v := 0) hx hb dX11_init_46 (by decide) ?_
  refine lv_istore_n (lv' := [(1, .int 0), (0, .ref a0)]) hx hb dX11_init_47 rfl hl (by decide) rfl (fun ls hl => ?_)
  refine lv_iload_n hx hb dX11_init_48 rfl (lv_at hl 0 rfl) ?_
  refine lv_bipush (v := 6) hx hb dX11_init_49 (by decide) ?_
  refine lv_icmp_ge (tgt := 73) hx hb dX11_init_51 (by decide) (fun h => absurd h (by decide)) (fun _ => ?_)
  refine lv_aload_n hx hb dX11_init_54 rfl (lv_at hl 1 rfl) ?_
  refine t_getk (ci := 11) (C := RX11) (T := TX11) (N := 12) hx hb hts iX11 hown hw rfl 3 (by decide) (hts _ tw_426) (fun _ h9 => h9) dX11_init_55 (c_a0.fld (k := 3) rfl) ?_
  refine lv_iload_n hx hb dX11_init_58 rfl (lv_at hl 0 rfl) ?_
  refine va_new (ci := 6) (fs := [.null, .int 0, .null, .null, .null, .int 0, .null]) (C := RX6) (T := TX6) (N := 7) hx hb hts iX6 tyX6 tyX6_ok hown (hts _ tw_176) (hts _ tw_178) (hts _ tw_6) hw.1 hw.2.1 hw.2.2.1 hw.2.2.2.1 hA rfl dfX6 (Nat.le_of_ble_eq_true rfl) (Nat.le_of_ble_eq_true rfl) dX11_init_59 (fun q_24 H hP hD hS => ?_)
  have hf := fr_new hD
  have ne_a0_q_24 : a0 ≠ q_24 := fun z => hf _ (z ▸ c_a0)
  have ne_q_19_q_24 : q_19 ≠ q_24 := fun z => hf _ (z ▸ c_q_19)
  have n_q_24 := hw.2.2.2.2.nn0 hf
  have z_q_24 := hG.fresh c_a0 hf
  have hG := hG.app (w1 := [(q_24, .inr (6, [.null, .int 0, .null, .null, .null, .int 0, .null]))])
  have c_a0 := c_a0.app (w1 := [(q_24, .inr (6, [.null, .int 0, .null, .null, .null, .int 0, .null]))])
  have c_q_19 := c_q_19.app (w1 := [(q_24, .inr (6, [.null, .int 0, .null, .null, .null, .int 0, .null]))])
  have c_q_24 : cAt (w_23 ++ [(q_24, .inr (6, [.null, .int 0, .null, .null, .null, .int 0, .null]))]) q_24 (.inr (6, [.null, .int 0, .null, .null, .null, .int 0, .null])) := cAt_last
  have hw : tW (dC, dI) y_22 κ_16 B A s (w_23 ++ [(q_24, .inr (6, [.null, .int 0, .null, .null, .null, .int 0, .null]))]) H locs := ⟨hw.1, hP, hD, hS, hw.2.2.2.2.appT SubT.rf⟩
  clear hf hP hD hS
  generalize (w_23 ++ [(q_24, .inr (6, [.null, .int 0, .null, .null, .null, .int 0, .null]))]) = w_25 at hw hG c_q_24 c_a0 c_q_19
  refine lv_dup hx hb dX11_init_62 rfl ?_
  refine t_callK (va_runI (As := []) (rest := [.ref q_24, .int 0, .ref q_19]) ⟨hx, hb, hml, hown, hts⟩ (k_X6_init l dC dI y_22 κ_16 B w_25 hw.2.2.2.2 q_24 n_q_24 c_q_24  H.size) (cwI 0 hts (gU tw_181) rfl rfl rfl (hts _ tw_6) (hts _ tw_179) (hts _ tw_180) rfl (by decide +kernel) ⟨(Nat.le_of_ble_eq_true rfl), (Nat.le_of_ble_eq_true rfl)⟩) ⟨cPre.blind, cPre.use hw.2.1 hw.1 hw.2.2.1 hE⟩ rfl rfl hl.1 rfl (lv_room (Nat.le_of_ble_eq_true rfl)) dX11_init_63 ⟨(Nat.le_of_ble_eq_true rfl), (Nat.le_of_ble_eq_true rfl)⟩) hw hA (fun _ h => h.1) (fun u H locs hp hw => ?_)
  obtain ⟨w_26, κ_27, y_28⟩ := u
  obtain ⟨_, hTs1, hGc, kn_q_24⟩ := hp
  dsimp only at hTs1 hGc kn_q_24 hw
  have hG := hG.call hGc z_q_24
  have hTs := hTs.trans hTs1
  have k_q_1 := hGc.1 _ _ k_q_1
  have k_q_7 := hGc.1 _ _ k_q_7
  have k_q_13 := hGc.1 _ _ k_q_13
  have n_a0 := (hGc.2 _ _ ne_a0_q_24 c_a0).2 n_a0
  have c_a0 := (hGc.2 _ _ ne_a0_q_24 c_a0).1
  have n_q_19 := (hGc.2 _ _ ne_q_19_q_24 c_q_19).2 n_q_19
  have c_q_19 := (hGc.2 _ _ ne_q_19_q_24 c_q_19).1
  have t_q_19 := t_q_19.elim (fun _ h => hTs1 _ _ h)
  have hF_q_19 := hF_q_19.ext hGc.1
  have k_q_24 := kn_q_24
  clear kn_q_24 c_q_24 n_q_24
  refine t_aastU (ci := 6) hx hb hw c_q_19 n_q_19 t_q_19 k_q_24 rfl rfl (show vp_in 0 6 from (by decide : ¬ ((0 : Int32) < 0 ∨ 6 ≤ (0 : Int32).toNatClampNeg))) dX11_init_66 (fun w_29 H locs hw hk c_q_19 => ?_)
  have hG := hG.set hk (Or.inr z_q_19)
  have c_a0 := hk _ _ ne_a0_q_19 c_a0
  have hF_q_19 := hF_q_19.up (x := 0) (by decide) k_q_24
  generalize va_up (fun _ => none) (Int32.toNatClampNeg 0) (some q_24) = f_30 at c_q_19 hF_q_19
  refine lv_iinc (v := 1) (lv' := [(1, .int 1), (0, .ref a0)]) hx hb dX11_init_67 hl (k := 0) rfl (by decide) (by decide) rfl (fun ls hl => ?_)
  refine lv_goto (tgt := 48) hx hb dX11_init_70 (by decide) ?_
  refine lv_iload_n hx hb dX11_init_48 rfl (lv_at hl 0 rfl) ?_
  refine lv_bipush (v := 6) hx hb dX11_init_49 (by decide) ?_
  refine lv_icmp_ge (tgt := 73) hx hb dX11_init_51 (by decide) (fun h => absurd h (by decide)) (fun _ => ?_)
  refine lv_aload_n hx hb dX11_init_54 rfl (lv_at hl 1 rfl) ?_
  refine t_getk (ci := 11) (C := RX11) (T := TX11) (N := 12) hx hb hts iX11 hown hw rfl 3 (by decide) (hts _ tw_426) (fun _ h9 => h9) dX11_init_55 (c_a0.fld (k := 3) rfl) ?_
  refine lv_iload_n hx hb dX11_init_58 rfl (lv_at hl 0 rfl) ?_
  refine va_new (ci := 6) (fs := [.null, .int 0, .null, .null, .null, .int 0, .null]) (C := RX6) (T := TX6) (N := 7) hx hb hts iX6 tyX6 tyX6_ok hown (hts _ tw_176) (hts _ tw_178) (hts _ tw_6) hw.1 hw.2.1 hw.2.2.1 hw.2.2.2.1 hA rfl dfX6 (Nat.le_of_ble_eq_true rfl) (Nat.le_of_ble_eq_true rfl) dX11_init_59 (fun q_31 H hP hD hS => ?_)
  have hf := fr_new hD
  have ne_a0_q_31 : a0 ≠ q_31 := fun z => hf _ (z ▸ c_a0)
  have ne_q_19_q_31 : q_19 ≠ q_31 := fun z => hf _ (z ▸ c_q_19)
  have n_q_31 := hw.2.2.2.2.nn0 hf
  have z_q_31 := hG.fresh c_a0 hf
  have hG := hG.app (w1 := [(q_31, .inr (6, [.null, .int 0, .null, .null, .null, .int 0, .null]))])
  have c_a0 := c_a0.app (w1 := [(q_31, .inr (6, [.null, .int 0, .null, .null, .null, .int 0, .null]))])
  have c_q_19 := c_q_19.app (w1 := [(q_31, .inr (6, [.null, .int 0, .null, .null, .null, .int 0, .null]))])
  have c_q_31 : cAt (w_29 ++ [(q_31, .inr (6, [.null, .int 0, .null, .null, .null, .int 0, .null]))]) q_31 (.inr (6, [.null, .int 0, .null, .null, .null, .int 0, .null])) := cAt_last
  have hw : tW (dC, dI) y_28 κ_27 B A s (w_29 ++ [(q_31, .inr (6, [.null, .int 0, .null, .null, .null, .int 0, .null]))]) H locs := ⟨hw.1, hP, hD, hS, hw.2.2.2.2.appT SubT.rf⟩
  clear hf hP hD hS
  generalize (w_29 ++ [(q_31, .inr (6, [.null, .int 0, .null, .null, .null, .int 0, .null]))]) = w_32 at hw hG c_q_31 c_a0 c_q_19
  refine lv_dup hx hb dX11_init_62 rfl ?_
  refine t_callK (va_runI (As := []) (rest := [.ref q_31, .int 1, .ref q_19]) ⟨hx, hb, hml, hown, hts⟩ (k_X6_init l dC dI y_28 κ_27 B w_32 hw.2.2.2.2 q_31 n_q_31 c_q_31  H.size) (cwI 0 hts (gU tw_181) rfl rfl rfl (hts _ tw_6) (hts _ tw_179) (hts _ tw_180) rfl (by decide +kernel) ⟨(Nat.le_of_ble_eq_true rfl), (Nat.le_of_ble_eq_true rfl)⟩) ⟨cPre.blind, cPre.use hw.2.1 hw.1 hw.2.2.1 hE⟩ rfl rfl hl.1 rfl (lv_room (Nat.le_of_ble_eq_true rfl)) dX11_init_63 ⟨(Nat.le_of_ble_eq_true rfl), (Nat.le_of_ble_eq_true rfl)⟩) hw hA (fun _ h => h.1) (fun u H locs hp hw => ?_)
  obtain ⟨w_33, κ_34, y_35⟩ := u
  obtain ⟨_, hTs1, hGc, kn_q_31⟩ := hp
  dsimp only at hTs1 hGc kn_q_31 hw
  have hG := hG.call hGc z_q_31
  have hTs := hTs.trans hTs1
  have k_q_1 := hGc.1 _ _ k_q_1
  have k_q_7 := hGc.1 _ _ k_q_7
  have k_q_13 := hGc.1 _ _ k_q_13
  have k_q_24 := hGc.1 _ _ k_q_24
  have n_a0 := (hGc.2 _ _ ne_a0_q_31 c_a0).2 n_a0
  have c_a0 := (hGc.2 _ _ ne_a0_q_31 c_a0).1
  have n_q_19 := (hGc.2 _ _ ne_q_19_q_31 c_q_19).2 n_q_19
  have c_q_19 := (hGc.2 _ _ ne_q_19_q_31 c_q_19).1
  have t_q_19 := t_q_19.elim (fun _ h => hTs1 _ _ h)
  have hF_q_19 := hF_q_19.ext hGc.1
  have k_q_31 := kn_q_31
  clear kn_q_31 c_q_31 n_q_31
  refine t_aastU (ci := 6) hx hb hw c_q_19 n_q_19 t_q_19 k_q_31 rfl rfl (show vp_in 1 6 from (by decide : ¬ ((1 : Int32) < 0 ∨ 6 ≤ (1 : Int32).toNatClampNeg))) dX11_init_66 (fun w_36 H locs hw hk c_q_19 => ?_)
  have hG := hG.set hk (Or.inr z_q_19)
  have c_a0 := hk _ _ ne_a0_q_19 c_a0
  have hF_q_19 := hF_q_19.up (x := 1) (by decide) k_q_31
  generalize va_up f_30 (Int32.toNatClampNeg 1) (some q_31) = f_37 at c_q_19 hF_q_19
  refine lv_iinc (v := 2) (lv' := [(1, .int 2), (0, .ref a0)]) hx hb dX11_init_67 hl (k := 0) rfl (by decide) (by decide) rfl (fun ls hl => ?_)
  refine lv_goto (tgt := 48) hx hb dX11_init_70 (by decide) ?_
  refine lv_iload_n hx hb dX11_init_48 rfl (lv_at hl 0 rfl) ?_
  refine lv_bipush (v := 6) hx hb dX11_init_49 (by decide) ?_
  refine lv_icmp_ge (tgt := 73) hx hb dX11_init_51 (by decide) (fun h => absurd h (by decide)) (fun _ => ?_)
  refine lv_aload_n hx hb dX11_init_54 rfl (lv_at hl 1 rfl) ?_
  refine t_getk (ci := 11) (C := RX11) (T := TX11) (N := 12) hx hb hts iX11 hown hw rfl 3 (by decide) (hts _ tw_426) (fun _ h9 => h9) dX11_init_55 (c_a0.fld (k := 3) rfl) ?_
  refine lv_iload_n hx hb dX11_init_58 rfl (lv_at hl 0 rfl) ?_
  refine va_new (ci := 6) (fs := [.null, .int 0, .null, .null, .null, .int 0, .null]) (C := RX6) (T := TX6) (N := 7) hx hb hts iX6 tyX6 tyX6_ok hown (hts _ tw_176) (hts _ tw_178) (hts _ tw_6) hw.1 hw.2.1 hw.2.2.1 hw.2.2.2.1 hA rfl dfX6 (Nat.le_of_ble_eq_true rfl) (Nat.le_of_ble_eq_true rfl) dX11_init_59 (fun q_38 H hP hD hS => ?_)
  have hf := fr_new hD
  have ne_a0_q_38 : a0 ≠ q_38 := fun z => hf _ (z ▸ c_a0)
  have ne_q_19_q_38 : q_19 ≠ q_38 := fun z => hf _ (z ▸ c_q_19)
  have n_q_38 := hw.2.2.2.2.nn0 hf
  have z_q_38 := hG.fresh c_a0 hf
  have hG := hG.app (w1 := [(q_38, .inr (6, [.null, .int 0, .null, .null, .null, .int 0, .null]))])
  have c_a0 := c_a0.app (w1 := [(q_38, .inr (6, [.null, .int 0, .null, .null, .null, .int 0, .null]))])
  have c_q_19 := c_q_19.app (w1 := [(q_38, .inr (6, [.null, .int 0, .null, .null, .null, .int 0, .null]))])
  have c_q_38 : cAt (w_36 ++ [(q_38, .inr (6, [.null, .int 0, .null, .null, .null, .int 0, .null]))]) q_38 (.inr (6, [.null, .int 0, .null, .null, .null, .int 0, .null])) := cAt_last
  have hw : tW (dC, dI) y_35 κ_34 B A s (w_36 ++ [(q_38, .inr (6, [.null, .int 0, .null, .null, .null, .int 0, .null]))]) H locs := ⟨hw.1, hP, hD, hS, hw.2.2.2.2.appT SubT.rf⟩
  clear hf hP hD hS
  generalize (w_36 ++ [(q_38, .inr (6, [.null, .int 0, .null, .null, .null, .int 0, .null]))]) = w_39 at hw hG c_q_38 c_a0 c_q_19
  refine lv_dup hx hb dX11_init_62 rfl ?_
  refine t_callK (va_runI (As := []) (rest := [.ref q_38, .int 2, .ref q_19]) ⟨hx, hb, hml, hown, hts⟩ (k_X6_init l dC dI y_35 κ_34 B w_39 hw.2.2.2.2 q_38 n_q_38 c_q_38  H.size) (cwI 0 hts (gU tw_181) rfl rfl rfl (hts _ tw_6) (hts _ tw_179) (hts _ tw_180) rfl (by decide +kernel) ⟨(Nat.le_of_ble_eq_true rfl), (Nat.le_of_ble_eq_true rfl)⟩) ⟨cPre.blind, cPre.use hw.2.1 hw.1 hw.2.2.1 hE⟩ rfl rfl hl.1 rfl (lv_room (Nat.le_of_ble_eq_true rfl)) dX11_init_63 ⟨(Nat.le_of_ble_eq_true rfl), (Nat.le_of_ble_eq_true rfl)⟩) hw hA (fun _ h => h.1) (fun u H locs hp hw => ?_)
  obtain ⟨w_40, κ_41, y_42⟩ := u
  obtain ⟨_, hTs1, hGc, kn_q_38⟩ := hp
  dsimp only at hTs1 hGc kn_q_38 hw
  have hG := hG.call hGc z_q_38
  have hTs := hTs.trans hTs1
  have k_q_1 := hGc.1 _ _ k_q_1
  have k_q_7 := hGc.1 _ _ k_q_7
  have k_q_13 := hGc.1 _ _ k_q_13
  have k_q_24 := hGc.1 _ _ k_q_24
  have k_q_31 := hGc.1 _ _ k_q_31
  have n_a0 := (hGc.2 _ _ ne_a0_q_38 c_a0).2 n_a0
  have c_a0 := (hGc.2 _ _ ne_a0_q_38 c_a0).1
  have n_q_19 := (hGc.2 _ _ ne_q_19_q_38 c_q_19).2 n_q_19
  have c_q_19 := (hGc.2 _ _ ne_q_19_q_38 c_q_19).1
  have t_q_19 := t_q_19.elim (fun _ h => hTs1 _ _ h)
  have hF_q_19 := hF_q_19.ext hGc.1
  have k_q_38 := kn_q_38
  clear kn_q_38 c_q_38 n_q_38
  refine t_aastU (ci := 6) hx hb hw c_q_19 n_q_19 t_q_19 k_q_38 rfl rfl (show vp_in 2 6 from (by decide : ¬ ((2 : Int32) < 0 ∨ 6 ≤ (2 : Int32).toNatClampNeg))) dX11_init_66 (fun w_43 H locs hw hk c_q_19 => ?_)
  have hG := hG.set hk (Or.inr z_q_19)
  have c_a0 := hk _ _ ne_a0_q_19 c_a0
  have hF_q_19 := hF_q_19.up (x := 2) (by decide) k_q_38
  generalize va_up f_37 (Int32.toNatClampNeg 2) (some q_38) = f_44 at c_q_19 hF_q_19
  refine lv_iinc (v := 3) (lv' := [(1, .int 3), (0, .ref a0)]) hx hb dX11_init_67 hl (k := 0) rfl (by decide) (by decide) rfl (fun ls hl => ?_)
  refine lv_goto (tgt := 48) hx hb dX11_init_70 (by decide) ?_
  refine lv_iload_n hx hb dX11_init_48 rfl (lv_at hl 0 rfl) ?_
  refine lv_bipush (v := 6) hx hb dX11_init_49 (by decide) ?_
  refine lv_icmp_ge (tgt := 73) hx hb dX11_init_51 (by decide) (fun h => absurd h (by decide)) (fun _ => ?_)
  refine lv_aload_n hx hb dX11_init_54 rfl (lv_at hl 1 rfl) ?_
  refine t_getk (ci := 11) (C := RX11) (T := TX11) (N := 12) hx hb hts iX11 hown hw rfl 3 (by decide) (hts _ tw_426) (fun _ h9 => h9) dX11_init_55 (c_a0.fld (k := 3) rfl) ?_
  refine lv_iload_n hx hb dX11_init_58 rfl (lv_at hl 0 rfl) ?_
  refine va_new (ci := 6) (fs := [.null, .int 0, .null, .null, .null, .int 0, .null]) (C := RX6) (T := TX6) (N := 7) hx hb hts iX6 tyX6 tyX6_ok hown (hts _ tw_176) (hts _ tw_178) (hts _ tw_6) hw.1 hw.2.1 hw.2.2.1 hw.2.2.2.1 hA rfl dfX6 (Nat.le_of_ble_eq_true rfl) (Nat.le_of_ble_eq_true rfl) dX11_init_59 (fun q_45 H hP hD hS => ?_)
  have hf := fr_new hD
  have ne_a0_q_45 : a0 ≠ q_45 := fun z => hf _ (z ▸ c_a0)
  have ne_q_19_q_45 : q_19 ≠ q_45 := fun z => hf _ (z ▸ c_q_19)
  have n_q_45 := hw.2.2.2.2.nn0 hf
  have z_q_45 := hG.fresh c_a0 hf
  have hG := hG.app (w1 := [(q_45, .inr (6, [.null, .int 0, .null, .null, .null, .int 0, .null]))])
  have c_a0 := c_a0.app (w1 := [(q_45, .inr (6, [.null, .int 0, .null, .null, .null, .int 0, .null]))])
  have c_q_19 := c_q_19.app (w1 := [(q_45, .inr (6, [.null, .int 0, .null, .null, .null, .int 0, .null]))])
  have c_q_45 : cAt (w_43 ++ [(q_45, .inr (6, [.null, .int 0, .null, .null, .null, .int 0, .null]))]) q_45 (.inr (6, [.null, .int 0, .null, .null, .null, .int 0, .null])) := cAt_last
  have hw : tW (dC, dI) y_42 κ_41 B A s (w_43 ++ [(q_45, .inr (6, [.null, .int 0, .null, .null, .null, .int 0, .null]))]) H locs := ⟨hw.1, hP, hD, hS, hw.2.2.2.2.appT SubT.rf⟩
  clear hf hP hD hS
  generalize (w_43 ++ [(q_45, .inr (6, [.null, .int 0, .null, .null, .null, .int 0, .null]))]) = w_46 at hw hG c_q_45 c_a0 c_q_19
  refine lv_dup hx hb dX11_init_62 rfl ?_
  refine t_callK (va_runI (As := []) (rest := [.ref q_45, .int 3, .ref q_19]) ⟨hx, hb, hml, hown, hts⟩ (k_X6_init l dC dI y_42 κ_41 B w_46 hw.2.2.2.2 q_45 n_q_45 c_q_45  H.size) (cwI 0 hts (gU tw_181) rfl rfl rfl (hts _ tw_6) (hts _ tw_179) (hts _ tw_180) rfl (by decide +kernel) ⟨(Nat.le_of_ble_eq_true rfl), (Nat.le_of_ble_eq_true rfl)⟩) ⟨cPre.blind, cPre.use hw.2.1 hw.1 hw.2.2.1 hE⟩ rfl rfl hl.1 rfl (lv_room (Nat.le_of_ble_eq_true rfl)) dX11_init_63 ⟨(Nat.le_of_ble_eq_true rfl), (Nat.le_of_ble_eq_true rfl)⟩) hw hA (fun _ h => h.1) (fun u H locs hp hw => ?_)
  obtain ⟨w_47, κ_48, y_49⟩ := u
  obtain ⟨_, hTs1, hGc, kn_q_45⟩ := hp
  dsimp only at hTs1 hGc kn_q_45 hw
  have hG := hG.call hGc z_q_45
  have hTs := hTs.trans hTs1
  have k_q_1 := hGc.1 _ _ k_q_1
  have k_q_7 := hGc.1 _ _ k_q_7
  have k_q_13 := hGc.1 _ _ k_q_13
  have k_q_24 := hGc.1 _ _ k_q_24
  have k_q_31 := hGc.1 _ _ k_q_31
  have k_q_38 := hGc.1 _ _ k_q_38
  have n_a0 := (hGc.2 _ _ ne_a0_q_45 c_a0).2 n_a0
  have c_a0 := (hGc.2 _ _ ne_a0_q_45 c_a0).1
  have n_q_19 := (hGc.2 _ _ ne_q_19_q_45 c_q_19).2 n_q_19
  have c_q_19 := (hGc.2 _ _ ne_q_19_q_45 c_q_19).1
  have t_q_19 := t_q_19.elim (fun _ h => hTs1 _ _ h)
  have hF_q_19 := hF_q_19.ext hGc.1
  have k_q_45 := kn_q_45
  clear kn_q_45 c_q_45 n_q_45
  refine t_aastU (ci := 6) hx hb hw c_q_19 n_q_19 t_q_19 k_q_45 rfl rfl (show vp_in 3 6 from (by decide : ¬ ((3 : Int32) < 0 ∨ 6 ≤ (3 : Int32).toNatClampNeg))) dX11_init_66 (fun w_50 H locs hw hk c_q_19 => ?_)
  have hG := hG.set hk (Or.inr z_q_19)
  have c_a0 := hk _ _ ne_a0_q_19 c_a0
  have hF_q_19 := hF_q_19.up (x := 3) (by decide) k_q_45
  generalize va_up f_44 (Int32.toNatClampNeg 3) (some q_45) = f_51 at c_q_19 hF_q_19
  refine lv_iinc (v := 4) (lv' := [(1, .int 4), (0, .ref a0)]) hx hb dX11_init_67 hl (k := 0) rfl (by decide) (by decide) rfl (fun ls hl => ?_)
  refine lv_goto (tgt := 48) hx hb dX11_init_70 (by decide) ?_
  refine lv_iload_n hx hb dX11_init_48 rfl (lv_at hl 0 rfl) ?_
  refine lv_bipush (v := 6) hx hb dX11_init_49 (by decide) ?_
  refine lv_icmp_ge (tgt := 73) hx hb dX11_init_51 (by decide) (fun h => absurd h (by decide)) (fun _ => ?_)
  refine lv_aload_n hx hb dX11_init_54 rfl (lv_at hl 1 rfl) ?_
  refine t_getk (ci := 11) (C := RX11) (T := TX11) (N := 12) hx hb hts iX11 hown hw rfl 3 (by decide) (hts _ tw_426) (fun _ h9 => h9) dX11_init_55 (c_a0.fld (k := 3) rfl) ?_
  refine lv_iload_n hx hb dX11_init_58 rfl (lv_at hl 0 rfl) ?_
  refine va_new (ci := 6) (fs := [.null, .int 0, .null, .null, .null, .int 0, .null]) (C := RX6) (T := TX6) (N := 7) hx hb hts iX6 tyX6 tyX6_ok hown (hts _ tw_176) (hts _ tw_178) (hts _ tw_6) hw.1 hw.2.1 hw.2.2.1 hw.2.2.2.1 hA rfl dfX6 (Nat.le_of_ble_eq_true rfl) (Nat.le_of_ble_eq_true rfl) dX11_init_59 (fun q_52 H hP hD hS => ?_)
  have hf := fr_new hD
  have ne_a0_q_52 : a0 ≠ q_52 := fun z => hf _ (z ▸ c_a0)
  have ne_q_19_q_52 : q_19 ≠ q_52 := fun z => hf _ (z ▸ c_q_19)
  have n_q_52 := hw.2.2.2.2.nn0 hf
  have z_q_52 := hG.fresh c_a0 hf
  have hG := hG.app (w1 := [(q_52, .inr (6, [.null, .int 0, .null, .null, .null, .int 0, .null]))])
  have c_a0 := c_a0.app (w1 := [(q_52, .inr (6, [.null, .int 0, .null, .null, .null, .int 0, .null]))])
  have c_q_19 := c_q_19.app (w1 := [(q_52, .inr (6, [.null, .int 0, .null, .null, .null, .int 0, .null]))])
  have c_q_52 : cAt (w_50 ++ [(q_52, .inr (6, [.null, .int 0, .null, .null, .null, .int 0, .null]))]) q_52 (.inr (6, [.null, .int 0, .null, .null, .null, .int 0, .null])) := cAt_last
  have hw : tW (dC, dI) y_49 κ_48 B A s (w_50 ++ [(q_52, .inr (6, [.null, .int 0, .null, .null, .null, .int 0, .null]))]) H locs := ⟨hw.1, hP, hD, hS, hw.2.2.2.2.appT SubT.rf⟩
  clear hf hP hD hS
  generalize (w_50 ++ [(q_52, .inr (6, [.null, .int 0, .null, .null, .null, .int 0, .null]))]) = w_53 at hw hG c_q_52 c_a0 c_q_19
  refine lv_dup hx hb dX11_init_62 rfl ?_
  refine t_callK (va_runI (As := []) (rest := [.ref q_52, .int 4, .ref q_19]) ⟨hx, hb, hml, hown, hts⟩ (k_X6_init l dC dI y_49 κ_48 B w_53 hw.2.2.2.2 q_52 n_q_52 c_q_52  H.size) (cwI 0 hts (gU tw_181) rfl rfl rfl (hts _ tw_6) (hts _ tw_179) (hts _ tw_180) rfl (by decide +kernel) ⟨(Nat.le_of_ble_eq_true rfl), (Nat.le_of_ble_eq_true rfl)⟩) ⟨cPre.blind, cPre.use hw.2.1 hw.1 hw.2.2.1 hE⟩ rfl rfl hl.1 rfl (lv_room (Nat.le_of_ble_eq_true rfl)) dX11_init_63 ⟨(Nat.le_of_ble_eq_true rfl), (Nat.le_of_ble_eq_true rfl)⟩) hw hA (fun _ h => h.1) (fun u H locs hp hw => ?_)
  obtain ⟨w_54, κ_55, y_56⟩ := u
  obtain ⟨_, hTs1, hGc, kn_q_52⟩ := hp
  dsimp only at hTs1 hGc kn_q_52 hw
  have hG := hG.call hGc z_q_52
  have hTs := hTs.trans hTs1
  have k_q_1 := hGc.1 _ _ k_q_1
  have k_q_7 := hGc.1 _ _ k_q_7
  have k_q_13 := hGc.1 _ _ k_q_13
  have k_q_24 := hGc.1 _ _ k_q_24
  have k_q_31 := hGc.1 _ _ k_q_31
  have k_q_38 := hGc.1 _ _ k_q_38
  have k_q_45 := hGc.1 _ _ k_q_45
  have n_a0 := (hGc.2 _ _ ne_a0_q_52 c_a0).2 n_a0
  have c_a0 := (hGc.2 _ _ ne_a0_q_52 c_a0).1
  have n_q_19 := (hGc.2 _ _ ne_q_19_q_52 c_q_19).2 n_q_19
  have c_q_19 := (hGc.2 _ _ ne_q_19_q_52 c_q_19).1
  have t_q_19 := t_q_19.elim (fun _ h => hTs1 _ _ h)
  have hF_q_19 := hF_q_19.ext hGc.1
  have k_q_52 := kn_q_52
  clear kn_q_52 c_q_52 n_q_52
  refine t_aastU (ci := 6) hx hb hw c_q_19 n_q_19 t_q_19 k_q_52 rfl rfl (show vp_in 4 6 from (by decide : ¬ ((4 : Int32) < 0 ∨ 6 ≤ (4 : Int32).toNatClampNeg))) dX11_init_66 (fun w_57 H locs hw hk c_q_19 => ?_)
  have hG := hG.set hk (Or.inr z_q_19)
  have c_a0 := hk _ _ ne_a0_q_19 c_a0
  have hF_q_19 := hF_q_19.up (x := 4) (by decide) k_q_52
  generalize va_up f_51 (Int32.toNatClampNeg 4) (some q_52) = f_58 at c_q_19 hF_q_19
  refine lv_iinc (v := 5) (lv' := [(1, .int 5), (0, .ref a0)]) hx hb dX11_init_67 hl (k := 0) rfl (by decide) (by decide) rfl (fun ls hl => ?_)
  refine lv_goto (tgt := 48) hx hb dX11_init_70 (by decide) ?_
  refine lv_iload_n hx hb dX11_init_48 rfl (lv_at hl 0 rfl) ?_
  refine lv_bipush (v := 6) hx hb dX11_init_49 (by decide) ?_
  refine lv_icmp_ge (tgt := 73) hx hb dX11_init_51 (by decide) (fun h => absurd h (by decide)) (fun _ => ?_)
  refine lv_aload_n hx hb dX11_init_54 rfl (lv_at hl 1 rfl) ?_
  refine t_getk (ci := 11) (C := RX11) (T := TX11) (N := 12) hx hb hts iX11 hown hw rfl 3 (by decide) (hts _ tw_426) (fun _ h9 => h9) dX11_init_55 (c_a0.fld (k := 3) rfl) ?_
  refine lv_iload_n hx hb dX11_init_58 rfl (lv_at hl 0 rfl) ?_
  refine va_new (ci := 6) (fs := [.null, .int 0, .null, .null, .null, .int 0, .null]) (C := RX6) (T := TX6) (N := 7) hx hb hts iX6 tyX6 tyX6_ok hown (hts _ tw_176) (hts _ tw_178) (hts _ tw_6) hw.1 hw.2.1 hw.2.2.1 hw.2.2.2.1 hA rfl dfX6 (Nat.le_of_ble_eq_true rfl) (Nat.le_of_ble_eq_true rfl) dX11_init_59 (fun q_59 H hP hD hS => ?_)
  have hf := fr_new hD
  have ne_a0_q_59 : a0 ≠ q_59 := fun z => hf _ (z ▸ c_a0)
  have ne_q_19_q_59 : q_19 ≠ q_59 := fun z => hf _ (z ▸ c_q_19)
  have n_q_59 := hw.2.2.2.2.nn0 hf
  have z_q_59 := hG.fresh c_a0 hf
  have hG := hG.app (w1 := [(q_59, .inr (6, [.null, .int 0, .null, .null, .null, .int 0, .null]))])
  have c_a0 := c_a0.app (w1 := [(q_59, .inr (6, [.null, .int 0, .null, .null, .null, .int 0, .null]))])
  have c_q_19 := c_q_19.app (w1 := [(q_59, .inr (6, [.null, .int 0, .null, .null, .null, .int 0, .null]))])
  have c_q_59 : cAt (w_57 ++ [(q_59, .inr (6, [.null, .int 0, .null, .null, .null, .int 0, .null]))]) q_59 (.inr (6, [.null, .int 0, .null, .null, .null, .int 0, .null])) := cAt_last
  have hw : tW (dC, dI) y_56 κ_55 B A s (w_57 ++ [(q_59, .inr (6, [.null, .int 0, .null, .null, .null, .int 0, .null]))]) H locs := ⟨hw.1, hP, hD, hS, hw.2.2.2.2.appT SubT.rf⟩
  clear hf hP hD hS
  generalize (w_57 ++ [(q_59, .inr (6, [.null, .int 0, .null, .null, .null, .int 0, .null]))]) = w_60 at hw hG c_q_59 c_a0 c_q_19
  refine lv_dup hx hb dX11_init_62 rfl ?_
  refine t_callK (va_runI (As := []) (rest := [.ref q_59, .int 5, .ref q_19]) ⟨hx, hb, hml, hown, hts⟩ (k_X6_init l dC dI y_56 κ_55 B w_60 hw.2.2.2.2 q_59 n_q_59 c_q_59  H.size) (cwI 0 hts (gU tw_181) rfl rfl rfl (hts _ tw_6) (hts _ tw_179) (hts _ tw_180) rfl (by decide +kernel) ⟨(Nat.le_of_ble_eq_true rfl), (Nat.le_of_ble_eq_true rfl)⟩) ⟨cPre.blind, cPre.use hw.2.1 hw.1 hw.2.2.1 hE⟩ rfl rfl hl.1 rfl (lv_room (Nat.le_of_ble_eq_true rfl)) dX11_init_63 ⟨(Nat.le_of_ble_eq_true rfl), (Nat.le_of_ble_eq_true rfl)⟩) hw hA (fun _ h => h.1) (fun u H locs hp hw => ?_)
  obtain ⟨w_61, κ_62, y_63⟩ := u
  obtain ⟨_, hTs1, hGc, kn_q_59⟩ := hp
  dsimp only at hTs1 hGc kn_q_59 hw
  have hG := hG.call hGc z_q_59
  have hTs := hTs.trans hTs1
  have k_q_1 := hGc.1 _ _ k_q_1
  have k_q_7 := hGc.1 _ _ k_q_7
  have k_q_13 := hGc.1 _ _ k_q_13
  have k_q_24 := hGc.1 _ _ k_q_24
  have k_q_31 := hGc.1 _ _ k_q_31
  have k_q_38 := hGc.1 _ _ k_q_38
  have k_q_45 := hGc.1 _ _ k_q_45
  have k_q_52 := hGc.1 _ _ k_q_52
  have n_a0 := (hGc.2 _ _ ne_a0_q_59 c_a0).2 n_a0
  have c_a0 := (hGc.2 _ _ ne_a0_q_59 c_a0).1
  have n_q_19 := (hGc.2 _ _ ne_q_19_q_59 c_q_19).2 n_q_19
  have c_q_19 := (hGc.2 _ _ ne_q_19_q_59 c_q_19).1
  have t_q_19 := t_q_19.elim (fun _ h => hTs1 _ _ h)
  have hF_q_19 := hF_q_19.ext hGc.1
  have k_q_59 := kn_q_59
  clear kn_q_59 c_q_59 n_q_59
  refine t_aastU (ci := 6) hx hb hw c_q_19 n_q_19 t_q_19 k_q_59 rfl rfl (show vp_in 5 6 from (by decide : ¬ ((5 : Int32) < 0 ∨ 6 ≤ (5 : Int32).toNatClampNeg))) dX11_init_66 (fun w_64 H locs hw hk c_q_19 => ?_)
  have hG := hG.set hk (Or.inr z_q_19)
  have c_a0 := hk _ _ ne_a0_q_19 c_a0
  have hF_q_19 := hF_q_19.up (x := 5) (by decide) k_q_59
  generalize va_up f_58 (Int32.toNatClampNeg 5) (some q_59) = f_65 at c_q_19 hF_q_19
  refine lv_iinc (v := 6) (lv' := [(1, .int 6), (0, .ref a0)]) hx hb dX11_init_67 hl (k := 0) rfl (by decide) (by decide) rfl (fun ls hl => ?_)
  refine lv_goto (tgt := 48) hx hb dX11_init_70 (by decide) ?_
  refine lv_iload_n hx hb dX11_init_48 rfl (lv_at hl 0 rfl) ?_
  refine lv_bipush (v := 6) hx hb dX11_init_49 (by decide) ?_
  refine lv_icmp_ge (tgt := 73) hx hb dX11_init_51 (by decide) (fun _ => ?_) (fun h => absurd h (by decide))
  refine lv_aload_n hx hb dX11_init_73 rfl (lv_at hl 1 rfl) ?_
  refine va_new (ci := 10) (fs := [.null, .null, .int 0, .int 0, .int 0, .null, .null, .int 0]) (C := RX10) (T := TX10) (N := 8) hx hb hts iX10 tyX10 tyX10_ok hown (hts _ tw_206) (hts _ tw_207) (hts _ tw_7) hw.1 hw.2.1 hw.2.2.1 hw.2.2.2.1 hA rfl dfX10 (Nat.le_of_ble_eq_true rfl) (Nat.le_of_ble_eq_true rfl) dX11_init_74 (fun q_66 H hP hD hS => ?_)
  have hf := fr_new hD
  have ne_a0_q_66 : a0 ≠ q_66 := fun z => hf _ (z ▸ c_a0)
  have ne_q_19_q_66 : q_19 ≠ q_66 := fun z => hf _ (z ▸ c_q_19)
  have n_q_66 := hw.2.2.2.2.nn0 hf
  have z_q_66 := hG.fresh c_a0 hf
  have hG := hG.app (w1 := [(q_66, .inr (10, [.null, .null, .int 0, .int 0, .int 0, .null, .null, .int 0]))])
  have c_a0 := c_a0.app (w1 := [(q_66, .inr (10, [.null, .null, .int 0, .int 0, .int 0, .null, .null, .int 0]))])
  have c_q_19 := c_q_19.app (w1 := [(q_66, .inr (10, [.null, .null, .int 0, .int 0, .int 0, .null, .null, .int 0]))])
  have c_q_66 : cAt (w_64 ++ [(q_66, .inr (10, [.null, .null, .int 0, .int 0, .int 0, .null, .null, .int 0]))]) q_66 (.inr (10, [.null, .null, .int 0, .int 0, .int 0, .null, .null, .int 0])) := cAt_last
  have hw : tW (dC, dI) y_63 κ_62 B A s (w_64 ++ [(q_66, .inr (10, [.null, .null, .int 0, .int 0, .int 0, .null, .null, .int 0]))]) H locs := ⟨hw.1, hP, hD, hS, hw.2.2.2.2.appT SubT.rf⟩
  clear hf hP hD hS
  generalize (w_64 ++ [(q_66, .inr (10, [.null, .null, .int 0, .int 0, .int 0, .null, .null, .int 0]))]) = w_67 at hw hG c_q_66 c_a0 c_q_19
  refine lv_dup hx hb dX11_init_77 rfl ?_
  refine va_new (ci := 0) (fs := [.int 0, .int 0, .int 0, .int 0, .int 0, .int 0, .null, .null, .null, .null, .null, .null, .null, .null, .null, .null]) (C := RX0) (T := TX0) (N := 16) hx hb hts iX0 tyX0 tyX0_ok hown (hts _ tw_208) (hts _ tw_63) (hts _ tw_4) hw.1 hw.2.1 hw.2.2.1 hw.2.2.2.1 hA rfl dfX0 (Nat.le_of_ble_eq_true rfl) (Nat.le_of_ble_eq_true rfl) dX11_init_78 (fun q_68 H hP hD hS => ?_)
  have hf := fr_new hD
  have ne_a0_q_68 : a0 ≠ q_68 := fun z => hf _ (z ▸ c_a0)
  have ne_q_19_q_68 : q_19 ≠ q_68 := fun z => hf _ (z ▸ c_q_19)
  have ne_q_66_q_68 : q_66 ≠ q_68 := fun z => hf _ (z ▸ c_q_66)
  have n_q_68 := hw.2.2.2.2.nn0 hf
  have z_q_68 := hG.fresh c_a0 hf
  have hG := hG.app (w1 := [(q_68, .inr (0, [.int 0, .int 0, .int 0, .int 0, .int 0, .int 0, .null, .null, .null, .null, .null, .null, .null, .null, .null, .null]))])
  have c_a0 := c_a0.app (w1 := [(q_68, .inr (0, [.int 0, .int 0, .int 0, .int 0, .int 0, .int 0, .null, .null, .null, .null, .null, .null, .null, .null, .null, .null]))])
  have c_q_19 := c_q_19.app (w1 := [(q_68, .inr (0, [.int 0, .int 0, .int 0, .int 0, .int 0, .int 0, .null, .null, .null, .null, .null, .null, .null, .null, .null, .null]))])
  have c_q_66 := c_q_66.app (w1 := [(q_68, .inr (0, [.int 0, .int 0, .int 0, .int 0, .int 0, .int 0, .null, .null, .null, .null, .null, .null, .null, .null, .null, .null]))])
  have c_q_68 : cAt (w_67 ++ [(q_68, .inr (0, [.int 0, .int 0, .int 0, .int 0, .int 0, .int 0, .null, .null, .null, .null, .null, .null, .null, .null, .null, .null]))]) q_68 (.inr (0, [.int 0, .int 0, .int 0, .int 0, .int 0, .int 0, .null, .null, .null, .null, .null, .null, .null, .null, .null, .null])) := cAt_last
  have hw : tW (dC, dI) y_63 κ_62 B A s (w_67 ++ [(q_68, .inr (0, [.int 0, .int 0, .int 0, .int 0, .int 0, .int 0, .null, .null, .null, .null, .null, .null, .null, .null, .null, .null]))]) H locs := ⟨hw.1, hP, hD, hS, hw.2.2.2.2.appT SubT.rf⟩
  clear hf hP hD hS
  generalize (w_67 ++ [(q_68, .inr (0, [.int 0, .int 0, .int 0, .int 0, .int 0, .int 0, .null, .null, .null, .null, .null, .null, .null, .null, .null, .null]))]) = w_69 at hw hG c_q_68 c_a0 c_q_19 c_q_66
  refine lv_dup hx hb dX11_init_81 rfl ?_
  refine t_callK (va_runI (As := []) (rest := [.ref q_68, .ref q_66, .ref q_66, .ref a0]) ⟨hx, hb, hml, hown, hts⟩ (k_X0_init l dC dI y_63 κ_62 B w_69 hw.2.2.2.2 q_68 n_q_68 c_q_68  H.size) (cwI 0 hts (gU tw_66) rfl rfl rfl (hts _ tw_4) (hts _ tw_209) (hts _ tw_65) rfl (by decide +kernel) ⟨(Nat.le_of_ble_eq_true rfl), (Nat.le_of_ble_eq_true rfl)⟩) ⟨cPre.blind, cPre.use hw.2.1 hw.1 hw.2.2.1 hE⟩ rfl rfl hl.1 rfl (lv_room (Nat.le_of_ble_eq_true rfl)) dX11_init_82 ⟨(Nat.le_of_ble_eq_true rfl), (Nat.le_of_ble_eq_true rfl)⟩) hw hA (fun _ h => h.1) (fun u H locs hp hw => ?_)
  obtain ⟨w_70, κ_71, y_72⟩ := u
  obtain ⟨_, hTs1, hGc, kn_q_68⟩ := hp
  dsimp only at hTs1 hGc kn_q_68 hw
  have hG := hG.call hGc z_q_68
  have hTs := hTs.trans hTs1
  have k_q_1 := hGc.1 _ _ k_q_1
  have k_q_7 := hGc.1 _ _ k_q_7
  have k_q_13 := hGc.1 _ _ k_q_13
  have k_q_24 := hGc.1 _ _ k_q_24
  have k_q_31 := hGc.1 _ _ k_q_31
  have k_q_38 := hGc.1 _ _ k_q_38
  have k_q_45 := hGc.1 _ _ k_q_45
  have k_q_52 := hGc.1 _ _ k_q_52
  have k_q_59 := hGc.1 _ _ k_q_59
  have n_a0 := (hGc.2 _ _ ne_a0_q_68 c_a0).2 n_a0
  have c_a0 := (hGc.2 _ _ ne_a0_q_68 c_a0).1
  have n_q_19 := (hGc.2 _ _ ne_q_19_q_68 c_q_19).2 n_q_19
  have c_q_19 := (hGc.2 _ _ ne_q_19_q_68 c_q_19).1
  have n_q_66 := (hGc.2 _ _ ne_q_66_q_68 c_q_66).2 n_q_66
  have c_q_66 := (hGc.2 _ _ ne_q_66_q_68 c_q_66).1
  have t_q_19 := t_q_19.elim (fun _ h => hTs1 _ _ h)
  have hF_q_19 := hF_q_19.ext hGc.1
  have k_q_68 := kn_q_68
  clear kn_q_68 c_q_68 n_q_68
  refine t_callK (va_runI (As := [.ref q_68]) (rest := [.ref q_66, .ref a0]) ⟨hx, hb, hml, hown, hts⟩ (k_X10_init l dC dI y_72 κ_71 B w_70 hw.2.2.2.2 q_66 n_q_66 c_q_66 q_68 k_q_68 H.size) (cwI 1 hts (gU tw_212) rfl rfl rfl (hts _ tw_7) (hts _ tw_210) (hts _ tw_211) rfl (by decide +kernel) ⟨(Nat.le_of_ble_eq_true rfl), (Nat.le_of_ble_eq_true rfl)⟩) ⟨cPre.blind, cPre.use hw.2.1 hw.1 hw.2.2.1 hE⟩ rfl rfl hl.1 rfl (lv_room (Nat.le_of_ble_eq_true rfl)) dX11_init_85 ⟨(Nat.le_of_ble_eq_true rfl), (Nat.le_of_ble_eq_true rfl)⟩) hw hA (fun _ h => h.1) (fun u H locs hp hw => ?_)
  obtain ⟨w_73, κ_74, y_75⟩ := u
  obtain ⟨_, hTs1, hGc, kn_q_66, fx_q_66, fm_q_66, fc_q_66⟩ := hp
  dsimp only at hTs1 hGc kn_q_66 fx_q_66 fm_q_66 fc_q_66 hw
  have hG := hG.call hGc z_q_66
  have hTs := hTs.trans hTs1
  have k_q_1 := hGc.1 _ _ k_q_1
  have k_q_7 := hGc.1 _ _ k_q_7
  have k_q_13 := hGc.1 _ _ k_q_13
  have k_q_24 := hGc.1 _ _ k_q_24
  have k_q_31 := hGc.1 _ _ k_q_31
  have k_q_38 := hGc.1 _ _ k_q_38
  have k_q_45 := hGc.1 _ _ k_q_45
  have k_q_52 := hGc.1 _ _ k_q_52
  have k_q_59 := hGc.1 _ _ k_q_59
  have k_q_68 := hGc.1 _ _ k_q_68
  have n_a0 := (hGc.2 _ _ ne_a0_q_66 c_a0).2 n_a0
  have c_a0 := (hGc.2 _ _ ne_a0_q_66 c_a0).1
  have n_q_19 := (hGc.2 _ _ ne_q_19_q_66 c_q_19).2 n_q_19
  have c_q_19 := (hGc.2 _ _ ne_q_19_q_66 c_q_19).1
  have t_q_19 := t_q_19.elim (fun _ h => hTs1 _ _ h)
  have hF_q_19 := hF_q_19.ext hGc.1
  have k_q_66 := kn_q_66
  clear kn_q_66 c_q_66 n_q_66
  refine t_putUF (ci := 11) (v := .ref q_66) (C := RX11) (T := TX11) (N := 12) hx hb hts iX11 tyX11 tyX11_ok nmX11 hown hw c_a0 n_a0 rfl 5 (by decide) (hts _ tw_428) (fun _ h9 => h9) rfl hin rfl (tyX11_ok 5 (by decide)) rfl rfl (Nat.le_of_ble_eq_true rfl) dX11_init_88 (fun w_76 H locs hw hk c_a0 => ?_)
  have c_a0 : cAt w_76 a0 (.inr (11, [.ref q_1, .ref q_7, .ref q_13, .ref q_19, .int 0, .ref q_66, .null, .null, .null, .null, .null, .null])) := c_a0
  have hG := hG.set hk (Or.inl rfl)
  have c_q_19 := hk _ _ (Ne.symm ne_a0_q_19) c_q_19
  have fx_q_66 := fld_hk hk (nk k_q_66 n_a0) fx_q_66
  have fm_q_66 := fld_hk hk (nk k_q_66 n_a0) fm_q_66
  have fc_q_66 := fld_hk hk (nk k_q_66 n_a0) fc_q_66
  refine lv_aload_n hx hb dX11_init_91 rfl (lv_at hl 1 rfl) ?_
  refine lv_iconst (v := 4) hx hb dX11_init_92 (by decide) ?_
  refine va_newq (D := (dC, dI)) (C := RX10) (N' := 4) hx hb hown (hts _ tw_206) hE.aoX10 hw.1 hw.2.1 hw.2.2.1 hw.2.2.2.1 hA (by decide) (by decide) (Nat.le_of_ble_eq_true rfl) (Nat.le_of_ble_eq_true rfl) (Nat.le_of_ble_eq_true rfl) dX11_init_93 (fun q_77 k_78 H hK hP hD hS => ?_)
  have t_q_77 : ∃ t0 : Nat, (y_75 ++ [(k_78, .object RX10)])[t0]? = some (k_78, .object RX10) := ⟨_, at_last⟩
  have hf := fr_new hD
  have ne_a0_q_77 : a0 ≠ q_77 := fun z => hf _ (z ▸ c_a0)
  have ne_q_19_q_77 : q_19 ≠ q_77 := fun z => hf _ (z ▸ c_q_19)
  have ne_q_66_q_77 : q_66 ≠ q_77 := nk k_q_66 (hw.2.2.2.2.nn0 hf)
  have n_q_77 := hw.2.2.2.2.nn0 hf
  have z_q_77 := hG.fresh c_a0 hf
  have hG := hG.app (w1 := [(q_77, .inl (k_78, 4, .inr (.inr (.inr (.inr (fun _ => none))))))])
  have c_a0 := c_a0.app (w1 := [(q_77, .inl (k_78, 4, .inr (.inr (.inr (.inr (fun _ => none))))))])
  have c_q_19 := c_q_19.app (w1 := [(q_77, .inl (k_78, 4, .inr (.inr (.inr (.inr (fun _ => none))))))])
  have fx_q_66 := fx_q_66.app (w1 := [(q_77, .inl (k_78, 4, .inr (.inr (.inr (.inr (fun _ => none))))))])
  have fm_q_66 := fm_q_66.app (w1 := [(q_77, .inl (k_78, 4, .inr (.inr (.inr (.inr (fun _ => none))))))])
  have fc_q_66 := fc_q_66.app (w1 := [(q_77, .inl (k_78, 4, .inr (.inr (.inr (.inr (fun _ => none))))))])
  have hTs := hTs.trans (SubT.app (t' := [(k_78, .object RX10)]))
  have t_q_19 := t_q_19.elim (fun _ h => SubT.app (t' := [(k_78, .object RX10)]) _ _ h)
  have c_q_77 : cAt (w_76 ++ [(q_77, .inl (k_78, 4, .inr (.inr (.inr (.inr (fun _ => none))))))]) q_77 (.inl (k_78, 4, .inr (.inr (.inr (.inr (fun _ => none)))))) := cAt_last
  have hw : tW (dC, dI) (y_75 ++ [(k_78, .object RX10)]) κ_74 B A s (w_76 ++ [(q_77, .inl (k_78, 4, .inr (.inr (.inr (.inr (fun _ => none))))))]) H locs := ⟨hK, hP, hD, hS, hw.2.2.2.2.appT (SubT.app (t' := [(k_78, .object RX10)]))⟩
  clear hf hP hD hS hK
  generalize (w_76 ++ [(q_77, .inl (k_78, 4, .inr (.inr (.inr (.inr (fun _ => none))))))]) = w_79 at hw hG c_q_77 c_a0 c_q_19 fx_q_66 fm_q_66 fc_q_66
  generalize (y_75 ++ [(k_78, .object RX10)]) = y_80 at hw hTs t_q_19 t_q_77
  have hF_q_77 : fil κ_74 (fun _ => none) 0 10 := fil.nil
  refine t_putUF (ci := 11) (v := .ref q_77) (C := RX11) (T := TX11) (N := 12) hx hb hts iX11 tyX11 tyX11_ok nmX11 hown hw c_a0 n_a0 rfl 6 (by decide) (hts _ tw_429) (fun _ h9 => h9) rfl hin rfl (tyX11_ok 6 (by decide)) rfl rfl (Nat.le_of_ble_eq_true rfl) dX11_init_96 (fun w_81 H locs hw hk c_a0 => ?_)
  have c_a0 : cAt w_81 a0 (.inr (11, [.ref q_1, .ref q_7, .ref q_13, .ref q_19, .int 0, .ref q_66, .ref q_77, .null, .null, .null, .null, .null])) := c_a0
  have hG := hG.set hk (Or.inl rfl)
  have c_q_19 := hk _ _ (Ne.symm ne_a0_q_19) c_q_19
  have c_q_77 := hk _ _ (Ne.symm ne_a0_q_77) c_q_77
  have fx_q_66 := fld_hk hk (nk k_q_66 n_a0) fx_q_66
  have fm_q_66 := fld_hk hk (nk k_q_66 n_a0) fm_q_66
  have fc_q_66 := fld_hk hk (nk k_q_66 n_a0) fc_q_66
  refine lv_iconst (v := 0) hx hb dX11_init_99 (by decide) ?_
  refine lv_istore_n (lv' := [(1, .int 0), (0, .ref a0)]) hx hb dX11_init_100 rfl hl (by decide) rfl (fun ls hl => ?_)
  refine lv_iload_n hx hb dX11_init_101 rfl (lv_at hl 0 rfl) ?_
  refine lv_iconst (v := 4) hx hb dX11_init_102 (by decide) ?_
  refine lv_icmp_ge (tgt := 132) hx hb dX11_init_103 (by decide) (fun h => absurd h (by decide)) (fun _ => ?_)
  refine lv_aload_n hx hb dX11_init_106 rfl (lv_at hl 1 rfl) ?_
  refine t_getk (ci := 11) (C := RX11) (T := TX11) (N := 12) hx hb hts iX11 hown hw rfl 6 (by decide) (hts _ tw_429) (fun _ h9 => h9) dX11_init_107 (c_a0.fld (k := 6) rfl) ?_
  refine lv_iload_n hx hb dX11_init_110 rfl (lv_at hl 0 rfl) ?_
  refine va_new (ci := 10) (fs := [.null, .null, .int 0, .int 0, .int 0, .null, .null, .int 0]) (C := RX10) (T := TX10) (N := 8) hx hb hts iX10 tyX10 tyX10_ok hown (hts _ tw_206) (hts _ tw_207) (hts _ tw_7) hw.1 hw.2.1 hw.2.2.1 hw.2.2.2.1 hA rfl dfX10 (Nat.le_of_ble_eq_true rfl) (Nat.le_of_ble_eq_true rfl) dX11_init_111 (fun q_82 H hP hD hS => ?_)
  have hf := fr_new hD
  have ne_a0_q_82 : a0 ≠ q_82 := fun z => hf _ (z ▸ c_a0)
  have ne_q_19_q_82 : q_19 ≠ q_82 := fun z => hf _ (z ▸ c_q_19)
  have ne_q_77_q_82 : q_77 ≠ q_82 := fun z => hf _ (z ▸ c_q_77)
  have ne_q_66_q_82 : q_66 ≠ q_82 := nk k_q_66 (hw.2.2.2.2.nn0 hf)
  have n_q_82 := hw.2.2.2.2.nn0 hf
  have z_q_82 := hG.fresh c_a0 hf
  have hG := hG.app (w1 := [(q_82, .inr (10, [.null, .null, .int 0, .int 0, .int 0, .null, .null, .int 0]))])
  have c_a0 := c_a0.app (w1 := [(q_82, .inr (10, [.null, .null, .int 0, .int 0, .int 0, .null, .null, .int 0]))])
  have c_q_19 := c_q_19.app (w1 := [(q_82, .inr (10, [.null, .null, .int 0, .int 0, .int 0, .null, .null, .int 0]))])
  have c_q_77 := c_q_77.app (w1 := [(q_82, .inr (10, [.null, .null, .int 0, .int 0, .int 0, .null, .null, .int 0]))])
  have fx_q_66 := fx_q_66.app (w1 := [(q_82, .inr (10, [.null, .null, .int 0, .int 0, .int 0, .null, .null, .int 0]))])
  have fm_q_66 := fm_q_66.app (w1 := [(q_82, .inr (10, [.null, .null, .int 0, .int 0, .int 0, .null, .null, .int 0]))])
  have fc_q_66 := fc_q_66.app (w1 := [(q_82, .inr (10, [.null, .null, .int 0, .int 0, .int 0, .null, .null, .int 0]))])
  have c_q_82 : cAt (w_81 ++ [(q_82, .inr (10, [.null, .null, .int 0, .int 0, .int 0, .null, .null, .int 0]))]) q_82 (.inr (10, [.null, .null, .int 0, .int 0, .int 0, .null, .null, .int 0])) := cAt_last
  have hw : tW (dC, dI) y_80 κ_74 B A s (w_81 ++ [(q_82, .inr (10, [.null, .null, .int 0, .int 0, .int 0, .null, .null, .int 0]))]) H locs := ⟨hw.1, hP, hD, hS, hw.2.2.2.2.appT SubT.rf⟩
  clear hf hP hD hS
  generalize (w_81 ++ [(q_82, .inr (10, [.null, .null, .int 0, .int 0, .int 0, .null, .null, .int 0]))]) = w_83 at hw hG c_q_82 c_a0 c_q_19 c_q_77 fx_q_66 fm_q_66 fc_q_66
  refine lv_dup hx hb dX11_init_114 rfl ?_
  refine lv_aload_n hx hb dX11_init_115 rfl (lv_at hl 1 rfl) ?_
  refine t_getk (ci := 11) (C := RX11) (T := TX11) (N := 12) hx hb hts iX11 hown hw rfl 5 (by decide) (hts _ tw_428) (fun _ h9 => h9) dX11_init_116 (c_a0.fld (k := 5) rfl) ?_
  refine t_getk (ci := 10) (C := RX10) (T := TX10) (N := 8) hx hb hts iX10 hown hw rfl 0 (by decide) (hts _ tw_282) (fun _ h9 => h9) dX11_init_119 fc_q_66 ?_
  refine t_callK (va_runI (As := [.ref q_68]) (rest := [.ref q_82, .int 0, .ref q_77]) ⟨hx, hb, hml, hown, hts⟩ (k_X10_init l dC dI y_80 κ_74 B w_83 hw.2.2.2.2 q_82 n_q_82 c_q_82 q_68 k_q_68 H.size) (cwI 1 hts (gU tw_212) rfl rfl rfl (hts _ tw_7) (hts _ tw_210) (hts _ tw_211) rfl (by decide +kernel) ⟨(Nat.le_of_ble_eq_true rfl), (Nat.le_of_ble_eq_true rfl)⟩) ⟨cPre.blind, cPre.use hw.2.1 hw.1 hw.2.2.1 hE⟩ rfl rfl hl.1 rfl (lv_room (Nat.le_of_ble_eq_true rfl)) dX11_init_122 ⟨(Nat.le_of_ble_eq_true rfl), (Nat.le_of_ble_eq_true rfl)⟩) hw hA (fun _ h => h.1) (fun u H locs hp hw => ?_)
  obtain ⟨w_84, κ_85, y_86⟩ := u
  obtain ⟨_, hTs1, hGc, kn_q_82, fx_q_82, fm_q_82, fc_q_82⟩ := hp
  dsimp only at hTs1 hGc kn_q_82 fx_q_82 fm_q_82 fc_q_82 hw
  have hG := hG.call hGc z_q_82
  have hTs := hTs.trans hTs1
  have fx_q_66 := hGc.fld (nk k_q_66 n_q_82) fx_q_66
  have fm_q_66 := hGc.fld (nk k_q_66 n_q_82) fm_q_66
  have fc_q_66 := hGc.fld (nk k_q_66 n_q_82) fc_q_66
  have k_q_1 := hGc.1 _ _ k_q_1
  have k_q_7 := hGc.1 _ _ k_q_7
  have k_q_13 := hGc.1 _ _ k_q_13
  have k_q_24 := hGc.1 _ _ k_q_24
  have k_q_31 := hGc.1 _ _ k_q_31
  have k_q_38 := hGc.1 _ _ k_q_38
  have k_q_45 := hGc.1 _ _ k_q_45
  have k_q_52 := hGc.1 _ _ k_q_52
  have k_q_59 := hGc.1 _ _ k_q_59
  have k_q_68 := hGc.1 _ _ k_q_68
  have k_q_66 := hGc.1 _ _ k_q_66
  have n_a0 := (hGc.2 _ _ ne_a0_q_82 c_a0).2 n_a0
  have c_a0 := (hGc.2 _ _ ne_a0_q_82 c_a0).1
  have n_q_19 := (hGc.2 _ _ ne_q_19_q_82 c_q_19).2 n_q_19
  have c_q_19 := (hGc.2 _ _ ne_q_19_q_82 c_q_19).1
  have n_q_77 := (hGc.2 _ _ ne_q_77_q_82 c_q_77).2 n_q_77
  have c_q_77 := (hGc.2 _ _ ne_q_77_q_82 c_q_77).1
  have t_q_19 := t_q_19.elim (fun _ h => hTs1 _ _ h)
  have hF_q_19 := hF_q_19.ext hGc.1
  have t_q_77 := t_q_77.elim (fun _ h => hTs1 _ _ h)
  have hF_q_77 := hF_q_77.ext hGc.1
  have k_q_82 := kn_q_82
  clear kn_q_82 c_q_82 n_q_82
  refine t_aastU (ci := 10) hx hb hw c_q_77 n_q_77 t_q_77 k_q_82 rfl rfl (show vp_in 0 4 from (by decide : ¬ ((0 : Int32) < 0 ∨ 4 ≤ (0 : Int32).toNatClampNeg))) dX11_init_125 (fun w_87 H locs hw hk c_q_77 => ?_)
  have hG := hG.set hk (Or.inr z_q_77)
  have c_a0 := hk _ _ ne_a0_q_77 c_a0
  have c_q_19 := hk _ _ ne_q_19_q_77 c_q_19
  have fx_q_66 := fld_hk hk (nk k_q_66 n_q_77) fx_q_66
  have fm_q_66 := fld_hk hk (nk k_q_66 n_q_77) fm_q_66
  have fc_q_66 := fld_hk hk (nk k_q_66 n_q_77) fc_q_66
  have fx_q_82 := fld_hk hk (nk k_q_82 n_q_77) fx_q_82
  have fm_q_82 := fld_hk hk (nk k_q_82 n_q_77) fm_q_82
  have fc_q_82 := fld_hk hk (nk k_q_82 n_q_77) fc_q_82
  have hF_q_77 := hF_q_77.up (x := 0) (by decide) k_q_82
  have hF_q_77 : fil κ_85 (va_up (fun _ => none) 0 (some q_82)) 1 10 := hF_q_77
  have c_q_77 : cAt w_87 q_77 (.inl (k_78, 4, .inr (.inr (.inr (.inr (va_up (fun _ => none) 0 (some q_82))))))) := c_q_77
  refine lv_iinc (v := 1) (lv' := [(1, .int 1), (0, .ref a0)]) hx hb dX11_init_126 hl (k := 0) rfl (by decide) (by decide) rfl (fun ls hl => ?_)
  refine lv_goto (tgt := 101) hx hb dX11_init_129 (by decide) ?_
  refine lv_iload_n hx hb dX11_init_101 rfl (lv_at hl 0 rfl) ?_
  refine lv_iconst (v := 4) hx hb dX11_init_102 (by decide) ?_
  refine lv_icmp_ge (tgt := 132) hx hb dX11_init_103 (by decide) (fun h => absurd h (by decide)) (fun _ => ?_)
  refine lv_aload_n hx hb dX11_init_106 rfl (lv_at hl 1 rfl) ?_
  refine t_getk (ci := 11) (C := RX11) (T := TX11) (N := 12) hx hb hts iX11 hown hw rfl 6 (by decide) (hts _ tw_429) (fun _ h9 => h9) dX11_init_107 (c_a0.fld (k := 6) rfl) ?_
  refine lv_iload_n hx hb dX11_init_110 rfl (lv_at hl 0 rfl) ?_
  refine va_new (ci := 10) (fs := [.null, .null, .int 0, .int 0, .int 0, .null, .null, .int 0]) (C := RX10) (T := TX10) (N := 8) hx hb hts iX10 tyX10 tyX10_ok hown (hts _ tw_206) (hts _ tw_207) (hts _ tw_7) hw.1 hw.2.1 hw.2.2.1 hw.2.2.2.1 hA rfl dfX10 (Nat.le_of_ble_eq_true rfl) (Nat.le_of_ble_eq_true rfl) dX11_init_111 (fun q_88 H hP hD hS => ?_)
  have hf := fr_new hD
  have ne_a0_q_88 : a0 ≠ q_88 := fun z => hf _ (z ▸ c_a0)
  have ne_q_19_q_88 : q_19 ≠ q_88 := fun z => hf _ (z ▸ c_q_19)
  have ne_q_77_q_88 : q_77 ≠ q_88 := fun z => hf _ (z ▸ c_q_77)
  have ne_q_66_q_88 : q_66 ≠ q_88 := nk k_q_66 (hw.2.2.2.2.nn0 hf)
  have ne_q_82_q_88 : q_82 ≠ q_88 := nk k_q_82 (hw.2.2.2.2.nn0 hf)
  have n_q_88 := hw.2.2.2.2.nn0 hf
  have z_q_88 := hG.fresh c_a0 hf
  have hG := hG.app (w1 := [(q_88, .inr (10, [.null, .null, .int 0, .int 0, .int 0, .null, .null, .int 0]))])
  have c_a0 := c_a0.app (w1 := [(q_88, .inr (10, [.null, .null, .int 0, .int 0, .int 0, .null, .null, .int 0]))])
  have c_q_19 := c_q_19.app (w1 := [(q_88, .inr (10, [.null, .null, .int 0, .int 0, .int 0, .null, .null, .int 0]))])
  have c_q_77 := c_q_77.app (w1 := [(q_88, .inr (10, [.null, .null, .int 0, .int 0, .int 0, .null, .null, .int 0]))])
  have fx_q_66 := fx_q_66.app (w1 := [(q_88, .inr (10, [.null, .null, .int 0, .int 0, .int 0, .null, .null, .int 0]))])
  have fm_q_66 := fm_q_66.app (w1 := [(q_88, .inr (10, [.null, .null, .int 0, .int 0, .int 0, .null, .null, .int 0]))])
  have fc_q_66 := fc_q_66.app (w1 := [(q_88, .inr (10, [.null, .null, .int 0, .int 0, .int 0, .null, .null, .int 0]))])
  have fx_q_82 := fx_q_82.app (w1 := [(q_88, .inr (10, [.null, .null, .int 0, .int 0, .int 0, .null, .null, .int 0]))])
  have fm_q_82 := fm_q_82.app (w1 := [(q_88, .inr (10, [.null, .null, .int 0, .int 0, .int 0, .null, .null, .int 0]))])
  have fc_q_82 := fc_q_82.app (w1 := [(q_88, .inr (10, [.null, .null, .int 0, .int 0, .int 0, .null, .null, .int 0]))])
  have c_q_88 : cAt (w_87 ++ [(q_88, .inr (10, [.null, .null, .int 0, .int 0, .int 0, .null, .null, .int 0]))]) q_88 (.inr (10, [.null, .null, .int 0, .int 0, .int 0, .null, .null, .int 0])) := cAt_last
  have hw : tW (dC, dI) y_86 κ_85 B A s (w_87 ++ [(q_88, .inr (10, [.null, .null, .int 0, .int 0, .int 0, .null, .null, .int 0]))]) H locs := ⟨hw.1, hP, hD, hS, hw.2.2.2.2.appT SubT.rf⟩
  clear hf hP hD hS
  generalize (w_87 ++ [(q_88, .inr (10, [.null, .null, .int 0, .int 0, .int 0, .null, .null, .int 0]))]) = w_89 at hw hG c_q_88 c_a0 c_q_19 c_q_77 fx_q_66 fm_q_66 fc_q_66 fx_q_82 fm_q_82 fc_q_82
  refine lv_dup hx hb dX11_init_114 rfl ?_
  refine lv_aload_n hx hb dX11_init_115 rfl (lv_at hl 1 rfl) ?_
  refine t_getk (ci := 11) (C := RX11) (T := TX11) (N := 12) hx hb hts iX11 hown hw rfl 5 (by decide) (hts _ tw_428) (fun _ h9 => h9) dX11_init_116 (c_a0.fld (k := 5) rfl) ?_
  refine t_getk (ci := 10) (C := RX10) (T := TX10) (N := 8) hx hb hts iX10 hown hw rfl 0 (by decide) (hts _ tw_282) (fun _ h9 => h9) dX11_init_119 fc_q_66 ?_
  refine t_callK (va_runI (As := [.ref q_68]) (rest := [.ref q_88, .int 1, .ref q_77]) ⟨hx, hb, hml, hown, hts⟩ (k_X10_init l dC dI y_86 κ_85 B w_89 hw.2.2.2.2 q_88 n_q_88 c_q_88 q_68 k_q_68 H.size) (cwI 1 hts (gU tw_212) rfl rfl rfl (hts _ tw_7) (hts _ tw_210) (hts _ tw_211) rfl (by decide +kernel) ⟨(Nat.le_of_ble_eq_true rfl), (Nat.le_of_ble_eq_true rfl)⟩) ⟨cPre.blind, cPre.use hw.2.1 hw.1 hw.2.2.1 hE⟩ rfl rfl hl.1 rfl (lv_room (Nat.le_of_ble_eq_true rfl)) dX11_init_122 ⟨(Nat.le_of_ble_eq_true rfl), (Nat.le_of_ble_eq_true rfl)⟩) hw hA (fun _ h => h.1) (fun u H locs hp hw => ?_)
  obtain ⟨w_90, κ_91, y_92⟩ := u
  obtain ⟨_, hTs1, hGc, kn_q_88, fx_q_88, fm_q_88, fc_q_88⟩ := hp
  dsimp only at hTs1 hGc kn_q_88 fx_q_88 fm_q_88 fc_q_88 hw
  have hG := hG.call hGc z_q_88
  have hTs := hTs.trans hTs1
  have fx_q_66 := hGc.fld (nk k_q_66 n_q_88) fx_q_66
  have fm_q_66 := hGc.fld (nk k_q_66 n_q_88) fm_q_66
  have fc_q_66 := hGc.fld (nk k_q_66 n_q_88) fc_q_66
  have fx_q_82 := hGc.fld (nk k_q_82 n_q_88) fx_q_82
  have fm_q_82 := hGc.fld (nk k_q_82 n_q_88) fm_q_82
  have fc_q_82 := hGc.fld (nk k_q_82 n_q_88) fc_q_82
  have k_q_1 := hGc.1 _ _ k_q_1
  have k_q_7 := hGc.1 _ _ k_q_7
  have k_q_13 := hGc.1 _ _ k_q_13
  have k_q_24 := hGc.1 _ _ k_q_24
  have k_q_31 := hGc.1 _ _ k_q_31
  have k_q_38 := hGc.1 _ _ k_q_38
  have k_q_45 := hGc.1 _ _ k_q_45
  have k_q_52 := hGc.1 _ _ k_q_52
  have k_q_59 := hGc.1 _ _ k_q_59
  have k_q_68 := hGc.1 _ _ k_q_68
  have k_q_66 := hGc.1 _ _ k_q_66
  have k_q_82 := hGc.1 _ _ k_q_82
  have n_a0 := (hGc.2 _ _ ne_a0_q_88 c_a0).2 n_a0
  have c_a0 := (hGc.2 _ _ ne_a0_q_88 c_a0).1
  have n_q_19 := (hGc.2 _ _ ne_q_19_q_88 c_q_19).2 n_q_19
  have c_q_19 := (hGc.2 _ _ ne_q_19_q_88 c_q_19).1
  have n_q_77 := (hGc.2 _ _ ne_q_77_q_88 c_q_77).2 n_q_77
  have c_q_77 := (hGc.2 _ _ ne_q_77_q_88 c_q_77).1
  have t_q_19 := t_q_19.elim (fun _ h => hTs1 _ _ h)
  have hF_q_19 := hF_q_19.ext hGc.1
  have t_q_77 := t_q_77.elim (fun _ h => hTs1 _ _ h)
  have hF_q_77 := hF_q_77.ext hGc.1
  have k_q_88 := kn_q_88
  clear kn_q_88 c_q_88 n_q_88
  refine t_aastU (ci := 10) hx hb hw c_q_77 n_q_77 t_q_77 k_q_88 rfl rfl (show vp_in 1 4 from (by decide : ¬ ((1 : Int32) < 0 ∨ 4 ≤ (1 : Int32).toNatClampNeg))) dX11_init_125 (fun w_93 H locs hw hk c_q_77 => ?_)
  have hG := hG.set hk (Or.inr z_q_77)
  have c_a0 := hk _ _ ne_a0_q_77 c_a0
  have c_q_19 := hk _ _ ne_q_19_q_77 c_q_19
  have fx_q_66 := fld_hk hk (nk k_q_66 n_q_77) fx_q_66
  have fm_q_66 := fld_hk hk (nk k_q_66 n_q_77) fm_q_66
  have fc_q_66 := fld_hk hk (nk k_q_66 n_q_77) fc_q_66
  have fx_q_82 := fld_hk hk (nk k_q_82 n_q_77) fx_q_82
  have fm_q_82 := fld_hk hk (nk k_q_82 n_q_77) fm_q_82
  have fc_q_82 := fld_hk hk (nk k_q_82 n_q_77) fc_q_82
  have fx_q_88 := fld_hk hk (nk k_q_88 n_q_77) fx_q_88
  have fm_q_88 := fld_hk hk (nk k_q_88 n_q_77) fm_q_88
  have fc_q_88 := fld_hk hk (nk k_q_88 n_q_77) fc_q_88
  have hF_q_77 := hF_q_77.up (x := 1) (by decide) k_q_88
  have hF_q_77 : fil κ_91 (va_up (va_up (fun _ => none) 0 (some q_82)) 1 (some q_88)) 2 10 := hF_q_77
  have c_q_77 : cAt w_93 q_77 (.inl (k_78, 4, .inr (.inr (.inr (.inr (va_up (va_up (fun _ => none) 0 (some q_82)) 1 (some q_88))))))) := c_q_77
  refine lv_iinc (v := 2) (lv' := [(1, .int 2), (0, .ref a0)]) hx hb dX11_init_126 hl (k := 0) rfl (by decide) (by decide) rfl (fun ls hl => ?_)
  refine lv_goto (tgt := 101) hx hb dX11_init_129 (by decide) ?_
  refine lv_iload_n hx hb dX11_init_101 rfl (lv_at hl 0 rfl) ?_
  refine lv_iconst (v := 4) hx hb dX11_init_102 (by decide) ?_
  refine lv_icmp_ge (tgt := 132) hx hb dX11_init_103 (by decide) (fun h => absurd h (by decide)) (fun _ => ?_)
  refine lv_aload_n hx hb dX11_init_106 rfl (lv_at hl 1 rfl) ?_
  refine t_getk (ci := 11) (C := RX11) (T := TX11) (N := 12) hx hb hts iX11 hown hw rfl 6 (by decide) (hts _ tw_429) (fun _ h9 => h9) dX11_init_107 (c_a0.fld (k := 6) rfl) ?_
  refine lv_iload_n hx hb dX11_init_110 rfl (lv_at hl 0 rfl) ?_
  refine va_new (ci := 10) (fs := [.null, .null, .int 0, .int 0, .int 0, .null, .null, .int 0]) (C := RX10) (T := TX10) (N := 8) hx hb hts iX10 tyX10 tyX10_ok hown (hts _ tw_206) (hts _ tw_207) (hts _ tw_7) hw.1 hw.2.1 hw.2.2.1 hw.2.2.2.1 hA rfl dfX10 (Nat.le_of_ble_eq_true rfl) (Nat.le_of_ble_eq_true rfl) dX11_init_111 (fun q_94 H hP hD hS => ?_)
  have hf := fr_new hD
  have ne_a0_q_94 : a0 ≠ q_94 := fun z => hf _ (z ▸ c_a0)
  have ne_q_19_q_94 : q_19 ≠ q_94 := fun z => hf _ (z ▸ c_q_19)
  have ne_q_77_q_94 : q_77 ≠ q_94 := fun z => hf _ (z ▸ c_q_77)
  have ne_q_66_q_94 : q_66 ≠ q_94 := nk k_q_66 (hw.2.2.2.2.nn0 hf)
  have ne_q_82_q_94 : q_82 ≠ q_94 := nk k_q_82 (hw.2.2.2.2.nn0 hf)
  have ne_q_88_q_94 : q_88 ≠ q_94 := nk k_q_88 (hw.2.2.2.2.nn0 hf)
  have n_q_94 := hw.2.2.2.2.nn0 hf
  have z_q_94 := hG.fresh c_a0 hf
  have hG := hG.app (w1 := [(q_94, .inr (10, [.null, .null, .int 0, .int 0, .int 0, .null, .null, .int 0]))])
  have c_a0 := c_a0.app (w1 := [(q_94, .inr (10, [.null, .null, .int 0, .int 0, .int 0, .null, .null, .int 0]))])
  have c_q_19 := c_q_19.app (w1 := [(q_94, .inr (10, [.null, .null, .int 0, .int 0, .int 0, .null, .null, .int 0]))])
  have c_q_77 := c_q_77.app (w1 := [(q_94, .inr (10, [.null, .null, .int 0, .int 0, .int 0, .null, .null, .int 0]))])
  have fx_q_66 := fx_q_66.app (w1 := [(q_94, .inr (10, [.null, .null, .int 0, .int 0, .int 0, .null, .null, .int 0]))])
  have fm_q_66 := fm_q_66.app (w1 := [(q_94, .inr (10, [.null, .null, .int 0, .int 0, .int 0, .null, .null, .int 0]))])
  have fc_q_66 := fc_q_66.app (w1 := [(q_94, .inr (10, [.null, .null, .int 0, .int 0, .int 0, .null, .null, .int 0]))])
  have fx_q_82 := fx_q_82.app (w1 := [(q_94, .inr (10, [.null, .null, .int 0, .int 0, .int 0, .null, .null, .int 0]))])
  have fm_q_82 := fm_q_82.app (w1 := [(q_94, .inr (10, [.null, .null, .int 0, .int 0, .int 0, .null, .null, .int 0]))])
  have fc_q_82 := fc_q_82.app (w1 := [(q_94, .inr (10, [.null, .null, .int 0, .int 0, .int 0, .null, .null, .int 0]))])
  have fx_q_88 := fx_q_88.app (w1 := [(q_94, .inr (10, [.null, .null, .int 0, .int 0, .int 0, .null, .null, .int 0]))])
  have fm_q_88 := fm_q_88.app (w1 := [(q_94, .inr (10, [.null, .null, .int 0, .int 0, .int 0, .null, .null, .int 0]))])
  have fc_q_88 := fc_q_88.app (w1 := [(q_94, .inr (10, [.null, .null, .int 0, .int 0, .int 0, .null, .null, .int 0]))])
  have c_q_94 : cAt (w_93 ++ [(q_94, .inr (10, [.null, .null, .int 0, .int 0, .int 0, .null, .null, .int 0]))]) q_94 (.inr (10, [.null, .null, .int 0, .int 0, .int 0, .null, .null, .int 0])) := cAt_last
  have hw : tW (dC, dI) y_92 κ_91 B A s (w_93 ++ [(q_94, .inr (10, [.null, .null, .int 0, .int 0, .int 0, .null, .null, .int 0]))]) H locs := ⟨hw.1, hP, hD, hS, hw.2.2.2.2.appT SubT.rf⟩
  clear hf hP hD hS
  generalize (w_93 ++ [(q_94, .inr (10, [.null, .null, .int 0, .int 0, .int 0, .null, .null, .int 0]))]) = w_95 at hw hG c_q_94 c_a0 c_q_19 c_q_77 fx_q_66 fm_q_66 fc_q_66 fx_q_82 fm_q_82 fc_q_82 fx_q_88 fm_q_88 fc_q_88
  refine lv_dup hx hb dX11_init_114 rfl ?_
  refine lv_aload_n hx hb dX11_init_115 rfl (lv_at hl 1 rfl) ?_
  refine t_getk (ci := 11) (C := RX11) (T := TX11) (N := 12) hx hb hts iX11 hown hw rfl 5 (by decide) (hts _ tw_428) (fun _ h9 => h9) dX11_init_116 (c_a0.fld (k := 5) rfl) ?_
  refine t_getk (ci := 10) (C := RX10) (T := TX10) (N := 8) hx hb hts iX10 hown hw rfl 0 (by decide) (hts _ tw_282) (fun _ h9 => h9) dX11_init_119 fc_q_66 ?_
  refine t_callK (va_runI (As := [.ref q_68]) (rest := [.ref q_94, .int 2, .ref q_77]) ⟨hx, hb, hml, hown, hts⟩ (k_X10_init l dC dI y_92 κ_91 B w_95 hw.2.2.2.2 q_94 n_q_94 c_q_94 q_68 k_q_68 H.size) (cwI 1 hts (gU tw_212) rfl rfl rfl (hts _ tw_7) (hts _ tw_210) (hts _ tw_211) rfl (by decide +kernel) ⟨(Nat.le_of_ble_eq_true rfl), (Nat.le_of_ble_eq_true rfl)⟩) ⟨cPre.blind, cPre.use hw.2.1 hw.1 hw.2.2.1 hE⟩ rfl rfl hl.1 rfl (lv_room (Nat.le_of_ble_eq_true rfl)) dX11_init_122 ⟨(Nat.le_of_ble_eq_true rfl), (Nat.le_of_ble_eq_true rfl)⟩) hw hA (fun _ h => h.1) (fun u H locs hp hw => ?_)
  obtain ⟨w_96, κ_97, y_98⟩ := u
  obtain ⟨_, hTs1, hGc, kn_q_94, fx_q_94, fm_q_94, fc_q_94⟩ := hp
  dsimp only at hTs1 hGc kn_q_94 fx_q_94 fm_q_94 fc_q_94 hw
  have hG := hG.call hGc z_q_94
  have hTs := hTs.trans hTs1
  have fx_q_66 := hGc.fld (nk k_q_66 n_q_94) fx_q_66
  have fm_q_66 := hGc.fld (nk k_q_66 n_q_94) fm_q_66
  have fc_q_66 := hGc.fld (nk k_q_66 n_q_94) fc_q_66
  have fx_q_82 := hGc.fld (nk k_q_82 n_q_94) fx_q_82
  have fm_q_82 := hGc.fld (nk k_q_82 n_q_94) fm_q_82
  have fc_q_82 := hGc.fld (nk k_q_82 n_q_94) fc_q_82
  have fx_q_88 := hGc.fld (nk k_q_88 n_q_94) fx_q_88
  have fm_q_88 := hGc.fld (nk k_q_88 n_q_94) fm_q_88
  have fc_q_88 := hGc.fld (nk k_q_88 n_q_94) fc_q_88
  have k_q_1 := hGc.1 _ _ k_q_1
  have k_q_7 := hGc.1 _ _ k_q_7
  have k_q_13 := hGc.1 _ _ k_q_13
  have k_q_24 := hGc.1 _ _ k_q_24
  have k_q_31 := hGc.1 _ _ k_q_31
  have k_q_38 := hGc.1 _ _ k_q_38
  have k_q_45 := hGc.1 _ _ k_q_45
  have k_q_52 := hGc.1 _ _ k_q_52
  have k_q_59 := hGc.1 _ _ k_q_59
  have k_q_68 := hGc.1 _ _ k_q_68
  have k_q_66 := hGc.1 _ _ k_q_66
  have k_q_82 := hGc.1 _ _ k_q_82
  have k_q_88 := hGc.1 _ _ k_q_88
  have n_a0 := (hGc.2 _ _ ne_a0_q_94 c_a0).2 n_a0
  have c_a0 := (hGc.2 _ _ ne_a0_q_94 c_a0).1
  have n_q_19 := (hGc.2 _ _ ne_q_19_q_94 c_q_19).2 n_q_19
  have c_q_19 := (hGc.2 _ _ ne_q_19_q_94 c_q_19).1
  have n_q_77 := (hGc.2 _ _ ne_q_77_q_94 c_q_77).2 n_q_77
  have c_q_77 := (hGc.2 _ _ ne_q_77_q_94 c_q_77).1
  have t_q_19 := t_q_19.elim (fun _ h => hTs1 _ _ h)
  have hF_q_19 := hF_q_19.ext hGc.1
  have t_q_77 := t_q_77.elim (fun _ h => hTs1 _ _ h)
  have hF_q_77 := hF_q_77.ext hGc.1
  have k_q_94 := kn_q_94
  clear kn_q_94 c_q_94 n_q_94
  refine t_aastU (ci := 10) hx hb hw c_q_77 n_q_77 t_q_77 k_q_94 rfl rfl (show vp_in 2 4 from (by decide : ¬ ((2 : Int32) < 0 ∨ 4 ≤ (2 : Int32).toNatClampNeg))) dX11_init_125 (fun w_99 H locs hw hk c_q_77 => ?_)
  have hG := hG.set hk (Or.inr z_q_77)
  have c_a0 := hk _ _ ne_a0_q_77 c_a0
  have c_q_19 := hk _ _ ne_q_19_q_77 c_q_19
  have fx_q_66 := fld_hk hk (nk k_q_66 n_q_77) fx_q_66
  have fm_q_66 := fld_hk hk (nk k_q_66 n_q_77) fm_q_66
  have fc_q_66 := fld_hk hk (nk k_q_66 n_q_77) fc_q_66
  have fx_q_82 := fld_hk hk (nk k_q_82 n_q_77) fx_q_82
  have fm_q_82 := fld_hk hk (nk k_q_82 n_q_77) fm_q_82
  have fc_q_82 := fld_hk hk (nk k_q_82 n_q_77) fc_q_82
  have fx_q_88 := fld_hk hk (nk k_q_88 n_q_77) fx_q_88
  have fm_q_88 := fld_hk hk (nk k_q_88 n_q_77) fm_q_88
  have fc_q_88 := fld_hk hk (nk k_q_88 n_q_77) fc_q_88
  have fx_q_94 := fld_hk hk (nk k_q_94 n_q_77) fx_q_94
  have fm_q_94 := fld_hk hk (nk k_q_94 n_q_77) fm_q_94
  have fc_q_94 := fld_hk hk (nk k_q_94 n_q_77) fc_q_94
  have hF_q_77 := hF_q_77.up (x := 2) (by decide) k_q_94
  have hF_q_77 : fil κ_97 (va_up (va_up (va_up (fun _ => none) 0 (some q_82)) 1 (some q_88)) 2 (some q_94)) 3 10 := hF_q_77
  have c_q_77 : cAt w_99 q_77 (.inl (k_78, 4, .inr (.inr (.inr (.inr (va_up (va_up (va_up (fun _ => none) 0 (some q_82)) 1 (some q_88)) 2 (some q_94))))))) := c_q_77
  refine lv_iinc (v := 3) (lv' := [(1, .int 3), (0, .ref a0)]) hx hb dX11_init_126 hl (k := 0) rfl (by decide) (by decide) rfl (fun ls hl => ?_)
  refine lv_goto (tgt := 101) hx hb dX11_init_129 (by decide) ?_
  refine lv_iload_n hx hb dX11_init_101 rfl (lv_at hl 0 rfl) ?_
  refine lv_iconst (v := 4) hx hb dX11_init_102 (by decide) ?_
  refine lv_icmp_ge (tgt := 132) hx hb dX11_init_103 (by decide) (fun h => absurd h (by decide)) (fun _ => ?_)
  refine lv_aload_n hx hb dX11_init_106 rfl (lv_at hl 1 rfl) ?_
  refine t_getk (ci := 11) (C := RX11) (T := TX11) (N := 12) hx hb hts iX11 hown hw rfl 6 (by decide) (hts _ tw_429) (fun _ h9 => h9) dX11_init_107 (c_a0.fld (k := 6) rfl) ?_
  refine lv_iload_n hx hb dX11_init_110 rfl (lv_at hl 0 rfl) ?_
  refine va_new (ci := 10) (fs := [.null, .null, .int 0, .int 0, .int 0, .null, .null, .int 0]) (C := RX10) (T := TX10) (N := 8) hx hb hts iX10 tyX10 tyX10_ok hown (hts _ tw_206) (hts _ tw_207) (hts _ tw_7) hw.1 hw.2.1 hw.2.2.1 hw.2.2.2.1 hA rfl dfX10 (Nat.le_of_ble_eq_true rfl) (Nat.le_of_ble_eq_true rfl) dX11_init_111 (fun q_100 H hP hD hS => ?_)
  have hf := fr_new hD
  have ne_a0_q_100 : a0 ≠ q_100 := fun z => hf _ (z ▸ c_a0)
  have ne_q_19_q_100 : q_19 ≠ q_100 := fun z => hf _ (z ▸ c_q_19)
  have ne_q_77_q_100 : q_77 ≠ q_100 := fun z => hf _ (z ▸ c_q_77)
  have ne_q_66_q_100 : q_66 ≠ q_100 := nk k_q_66 (hw.2.2.2.2.nn0 hf)
  have ne_q_82_q_100 : q_82 ≠ q_100 := nk k_q_82 (hw.2.2.2.2.nn0 hf)
  have ne_q_88_q_100 : q_88 ≠ q_100 := nk k_q_88 (hw.2.2.2.2.nn0 hf)
  have ne_q_94_q_100 : q_94 ≠ q_100 := nk k_q_94 (hw.2.2.2.2.nn0 hf)
  have n_q_100 := hw.2.2.2.2.nn0 hf
  have z_q_100 := hG.fresh c_a0 hf
  have hG := hG.app (w1 := [(q_100, .inr (10, [.null, .null, .int 0, .int 0, .int 0, .null, .null, .int 0]))])
  have c_a0 := c_a0.app (w1 := [(q_100, .inr (10, [.null, .null, .int 0, .int 0, .int 0, .null, .null, .int 0]))])
  have c_q_19 := c_q_19.app (w1 := [(q_100, .inr (10, [.null, .null, .int 0, .int 0, .int 0, .null, .null, .int 0]))])
  have c_q_77 := c_q_77.app (w1 := [(q_100, .inr (10, [.null, .null, .int 0, .int 0, .int 0, .null, .null, .int 0]))])
  have fx_q_66 := fx_q_66.app (w1 := [(q_100, .inr (10, [.null, .null, .int 0, .int 0, .int 0, .null, .null, .int 0]))])
  have fm_q_66 := fm_q_66.app (w1 := [(q_100, .inr (10, [.null, .null, .int 0, .int 0, .int 0, .null, .null, .int 0]))])
  have fc_q_66 := fc_q_66.app (w1 := [(q_100, .inr (10, [.null, .null, .int 0, .int 0, .int 0, .null, .null, .int 0]))])
  have fx_q_82 := fx_q_82.app (w1 := [(q_100, .inr (10, [.null, .null, .int 0, .int 0, .int 0, .null, .null, .int 0]))])
  have fm_q_82 := fm_q_82.app (w1 := [(q_100, .inr (10, [.null, .null, .int 0, .int 0, .int 0, .null, .null, .int 0]))])
  have fc_q_82 := fc_q_82.app (w1 := [(q_100, .inr (10, [.null, .null, .int 0, .int 0, .int 0, .null, .null, .int 0]))])
  have fx_q_88 := fx_q_88.app (w1 := [(q_100, .inr (10, [.null, .null, .int 0, .int 0, .int 0, .null, .null, .int 0]))])
  have fm_q_88 := fm_q_88.app (w1 := [(q_100, .inr (10, [.null, .null, .int 0, .int 0, .int 0, .null, .null, .int 0]))])
  have fc_q_88 := fc_q_88.app (w1 := [(q_100, .inr (10, [.null, .null, .int 0, .int 0, .int 0, .null, .null, .int 0]))])
  have fx_q_94 := fx_q_94.app (w1 := [(q_100, .inr (10, [.null, .null, .int 0, .int 0, .int 0, .null, .null, .int 0]))])
  have fm_q_94 := fm_q_94.app (w1 := [(q_100, .inr (10, [.null, .null, .int 0, .int 0, .int 0, .null, .null, .int 0]))])
  have fc_q_94 := fc_q_94.app (w1 := [(q_100, .inr (10, [.null, .null, .int 0, .int 0, .int 0, .null, .null, .int 0]))])
  have c_q_100 : cAt (w_99 ++ [(q_100, .inr (10, [.null, .null, .int 0, .int 0, .int 0, .null, .null, .int 0]))]) q_100 (.inr (10, [.null, .null, .int 0, .int 0, .int 0, .null, .null, .int 0])) := cAt_last
  have hw : tW (dC, dI) y_98 κ_97 B A s (w_99 ++ [(q_100, .inr (10, [.null, .null, .int 0, .int 0, .int 0, .null, .null, .int 0]))]) H locs := ⟨hw.1, hP, hD, hS, hw.2.2.2.2.appT SubT.rf⟩
  clear hf hP hD hS
  generalize (w_99 ++ [(q_100, .inr (10, [.null, .null, .int 0, .int 0, .int 0, .null, .null, .int 0]))]) = w_101 at hw hG c_q_100 c_a0 c_q_19 c_q_77 fx_q_66 fm_q_66 fc_q_66 fx_q_82 fm_q_82 fc_q_82 fx_q_88 fm_q_88 fc_q_88 fx_q_94 fm_q_94 fc_q_94
  refine lv_dup hx hb dX11_init_114 rfl ?_
  refine lv_aload_n hx hb dX11_init_115 rfl (lv_at hl 1 rfl) ?_
  refine t_getk (ci := 11) (C := RX11) (T := TX11) (N := 12) hx hb hts iX11 hown hw rfl 5 (by decide) (hts _ tw_428) (fun _ h9 => h9) dX11_init_116 (c_a0.fld (k := 5) rfl) ?_
  refine t_getk (ci := 10) (C := RX10) (T := TX10) (N := 8) hx hb hts iX10 hown hw rfl 0 (by decide) (hts _ tw_282) (fun _ h9 => h9) dX11_init_119 fc_q_66 ?_
  refine t_callK (va_runI (As := [.ref q_68]) (rest := [.ref q_100, .int 3, .ref q_77]) ⟨hx, hb, hml, hown, hts⟩ (k_X10_init l dC dI y_98 κ_97 B w_101 hw.2.2.2.2 q_100 n_q_100 c_q_100 q_68 k_q_68 H.size) (cwI 1 hts (gU tw_212) rfl rfl rfl (hts _ tw_7) (hts _ tw_210) (hts _ tw_211) rfl (by decide +kernel) ⟨(Nat.le_of_ble_eq_true rfl), (Nat.le_of_ble_eq_true rfl)⟩) ⟨cPre.blind, cPre.use hw.2.1 hw.1 hw.2.2.1 hE⟩ rfl rfl hl.1 rfl (lv_room (Nat.le_of_ble_eq_true rfl)) dX11_init_122 ⟨(Nat.le_of_ble_eq_true rfl), (Nat.le_of_ble_eq_true rfl)⟩) hw hA (fun _ h => h.1) (fun u H locs hp hw => ?_)
  obtain ⟨w_102, κ_103, y_104⟩ := u
  obtain ⟨_, hTs1, hGc, kn_q_100, fx_q_100, fm_q_100, fc_q_100⟩ := hp
  dsimp only at hTs1 hGc kn_q_100 fx_q_100 fm_q_100 fc_q_100 hw
  have hG := hG.call hGc z_q_100
  have hTs := hTs.trans hTs1
  have fx_q_66 := hGc.fld (nk k_q_66 n_q_100) fx_q_66
  have fm_q_66 := hGc.fld (nk k_q_66 n_q_100) fm_q_66
  have fc_q_66 := hGc.fld (nk k_q_66 n_q_100) fc_q_66
  have fx_q_82 := hGc.fld (nk k_q_82 n_q_100) fx_q_82
  have fm_q_82 := hGc.fld (nk k_q_82 n_q_100) fm_q_82
  have fc_q_82 := hGc.fld (nk k_q_82 n_q_100) fc_q_82
  have fx_q_88 := hGc.fld (nk k_q_88 n_q_100) fx_q_88
  have fm_q_88 := hGc.fld (nk k_q_88 n_q_100) fm_q_88
  have fc_q_88 := hGc.fld (nk k_q_88 n_q_100) fc_q_88
  have fx_q_94 := hGc.fld (nk k_q_94 n_q_100) fx_q_94
  have fm_q_94 := hGc.fld (nk k_q_94 n_q_100) fm_q_94
  have fc_q_94 := hGc.fld (nk k_q_94 n_q_100) fc_q_94
  have k_q_1 := hGc.1 _ _ k_q_1
  have k_q_7 := hGc.1 _ _ k_q_7
  have k_q_13 := hGc.1 _ _ k_q_13
  have k_q_24 := hGc.1 _ _ k_q_24
  have k_q_31 := hGc.1 _ _ k_q_31
  have k_q_38 := hGc.1 _ _ k_q_38
  have k_q_45 := hGc.1 _ _ k_q_45
  have k_q_52 := hGc.1 _ _ k_q_52
  have k_q_59 := hGc.1 _ _ k_q_59
  have k_q_68 := hGc.1 _ _ k_q_68
  have k_q_66 := hGc.1 _ _ k_q_66
  have k_q_82 := hGc.1 _ _ k_q_82
  have k_q_88 := hGc.1 _ _ k_q_88
  have k_q_94 := hGc.1 _ _ k_q_94
  have n_a0 := (hGc.2 _ _ ne_a0_q_100 c_a0).2 n_a0
  have c_a0 := (hGc.2 _ _ ne_a0_q_100 c_a0).1
  have n_q_19 := (hGc.2 _ _ ne_q_19_q_100 c_q_19).2 n_q_19
  have c_q_19 := (hGc.2 _ _ ne_q_19_q_100 c_q_19).1
  have n_q_77 := (hGc.2 _ _ ne_q_77_q_100 c_q_77).2 n_q_77
  have c_q_77 := (hGc.2 _ _ ne_q_77_q_100 c_q_77).1
  have t_q_19 := t_q_19.elim (fun _ h => hTs1 _ _ h)
  have hF_q_19 := hF_q_19.ext hGc.1
  have t_q_77 := t_q_77.elim (fun _ h => hTs1 _ _ h)
  have hF_q_77 := hF_q_77.ext hGc.1
  have k_q_100 := kn_q_100
  clear kn_q_100 c_q_100 n_q_100
  refine t_aastU (ci := 10) hx hb hw c_q_77 n_q_77 t_q_77 k_q_100 rfl rfl (show vp_in 3 4 from (by decide : ¬ ((3 : Int32) < 0 ∨ 4 ≤ (3 : Int32).toNatClampNeg))) dX11_init_125 (fun w_105 H locs hw hk c_q_77 => ?_)
  have hG := hG.set hk (Or.inr z_q_77)
  have c_a0 := hk _ _ ne_a0_q_77 c_a0
  have c_q_19 := hk _ _ ne_q_19_q_77 c_q_19
  have fx_q_66 := fld_hk hk (nk k_q_66 n_q_77) fx_q_66
  have fm_q_66 := fld_hk hk (nk k_q_66 n_q_77) fm_q_66
  have fc_q_66 := fld_hk hk (nk k_q_66 n_q_77) fc_q_66
  have fx_q_82 := fld_hk hk (nk k_q_82 n_q_77) fx_q_82
  have fm_q_82 := fld_hk hk (nk k_q_82 n_q_77) fm_q_82
  have fc_q_82 := fld_hk hk (nk k_q_82 n_q_77) fc_q_82
  have fx_q_88 := fld_hk hk (nk k_q_88 n_q_77) fx_q_88
  have fm_q_88 := fld_hk hk (nk k_q_88 n_q_77) fm_q_88
  have fc_q_88 := fld_hk hk (nk k_q_88 n_q_77) fc_q_88
  have fx_q_94 := fld_hk hk (nk k_q_94 n_q_77) fx_q_94
  have fm_q_94 := fld_hk hk (nk k_q_94 n_q_77) fm_q_94
  have fc_q_94 := fld_hk hk (nk k_q_94 n_q_77) fc_q_94
  have fx_q_100 := fld_hk hk (nk k_q_100 n_q_77) fx_q_100
  have fm_q_100 := fld_hk hk (nk k_q_100 n_q_77) fm_q_100
  have fc_q_100 := fld_hk hk (nk k_q_100 n_q_77) fc_q_100
  have hF_q_77 := hF_q_77.up (x := 3) (by decide) k_q_100
  have hF_q_77 : fil κ_103 (va_up (va_up (va_up (va_up (fun _ => none) 0 (some q_82)) 1 (some q_88)) 2 (some q_94)) 3 (some q_100)) 4 10 := hF_q_77
  have c_q_77 : cAt w_105 q_77 (.inl (k_78, 4, .inr (.inr (.inr (.inr (va_up (va_up (va_up (va_up (fun _ => none) 0 (some q_82)) 1 (some q_88)) 2 (some q_94)) 3 (some q_100))))))) := c_q_77
  refine lv_iinc (v := 4) (lv' := [(1, .int 4), (0, .ref a0)]) hx hb dX11_init_126 hl (k := 0) rfl (by decide) (by decide) rfl (fun ls hl => ?_)
  refine lv_goto (tgt := 101) hx hb dX11_init_129 (by decide) ?_
  refine lv_iload_n hx hb dX11_init_101 rfl (lv_at hl 0 rfl) ?_
  refine lv_iconst (v := 4) hx hb dX11_init_102 (by decide) ?_
  refine lv_icmp_ge (tgt := 132) hx hb dX11_init_103 (by decide) (fun _ => ?_) (fun h => absurd h (by decide))
  refine lv_aload_n hx hb dX11_init_132 rfl (lv_at hl 1 rfl) ?_
  refine va_new (ci := 4) (fs := [.null, .int 0, .int 0]) (C := RX4) (T := TX4) (N := 3) hx hb hts iX4 tyX4 tyX4_ok hown (hts _ tw_318) (hts _ tw_319) (hts _ tw_9) hw.1 hw.2.1 hw.2.2.1 hw.2.2.2.1 hA rfl dfX4 (Nat.le_of_ble_eq_true rfl) (Nat.le_of_ble_eq_true rfl) dX11_init_133 (fun q_106 H hP hD hS => ?_)
  have hf := fr_new hD
  have ne_a0_q_106 : a0 ≠ q_106 := fun z => hf _ (z ▸ c_a0)
  have ne_q_19_q_106 : q_19 ≠ q_106 := fun z => hf _ (z ▸ c_q_19)
  have ne_q_77_q_106 : q_77 ≠ q_106 := fun z => hf _ (z ▸ c_q_77)
  have ne_q_66_q_106 : q_66 ≠ q_106 := nk k_q_66 (hw.2.2.2.2.nn0 hf)
  have ne_q_82_q_106 : q_82 ≠ q_106 := nk k_q_82 (hw.2.2.2.2.nn0 hf)
  have ne_q_88_q_106 : q_88 ≠ q_106 := nk k_q_88 (hw.2.2.2.2.nn0 hf)
  have ne_q_94_q_106 : q_94 ≠ q_106 := nk k_q_94 (hw.2.2.2.2.nn0 hf)
  have ne_q_100_q_106 : q_100 ≠ q_106 := nk k_q_100 (hw.2.2.2.2.nn0 hf)
  have n_q_106 := hw.2.2.2.2.nn0 hf
  have z_q_106 := hG.fresh c_a0 hf
  have hG := hG.app (w1 := [(q_106, .inr (4, [.null, .int 0, .int 0]))])
  have c_a0 := c_a0.app (w1 := [(q_106, .inr (4, [.null, .int 0, .int 0]))])
  have c_q_19 := c_q_19.app (w1 := [(q_106, .inr (4, [.null, .int 0, .int 0]))])
  have c_q_77 := c_q_77.app (w1 := [(q_106, .inr (4, [.null, .int 0, .int 0]))])
  have fx_q_66 := fx_q_66.app (w1 := [(q_106, .inr (4, [.null, .int 0, .int 0]))])
  have fm_q_66 := fm_q_66.app (w1 := [(q_106, .inr (4, [.null, .int 0, .int 0]))])
  have fc_q_66 := fc_q_66.app (w1 := [(q_106, .inr (4, [.null, .int 0, .int 0]))])
  have fx_q_82 := fx_q_82.app (w1 := [(q_106, .inr (4, [.null, .int 0, .int 0]))])
  have fm_q_82 := fm_q_82.app (w1 := [(q_106, .inr (4, [.null, .int 0, .int 0]))])
  have fc_q_82 := fc_q_82.app (w1 := [(q_106, .inr (4, [.null, .int 0, .int 0]))])
  have fx_q_88 := fx_q_88.app (w1 := [(q_106, .inr (4, [.null, .int 0, .int 0]))])
  have fm_q_88 := fm_q_88.app (w1 := [(q_106, .inr (4, [.null, .int 0, .int 0]))])
  have fc_q_88 := fc_q_88.app (w1 := [(q_106, .inr (4, [.null, .int 0, .int 0]))])
  have fx_q_94 := fx_q_94.app (w1 := [(q_106, .inr (4, [.null, .int 0, .int 0]))])
  have fm_q_94 := fm_q_94.app (w1 := [(q_106, .inr (4, [.null, .int 0, .int 0]))])
  have fc_q_94 := fc_q_94.app (w1 := [(q_106, .inr (4, [.null, .int 0, .int 0]))])
  have fx_q_100 := fx_q_100.app (w1 := [(q_106, .inr (4, [.null, .int 0, .int 0]))])
  have fm_q_100 := fm_q_100.app (w1 := [(q_106, .inr (4, [.null, .int 0, .int 0]))])
  have fc_q_100 := fc_q_100.app (w1 := [(q_106, .inr (4, [.null, .int 0, .int 0]))])
  have c_q_106 : cAt (w_105 ++ [(q_106, .inr (4, [.null, .int 0, .int 0]))]) q_106 (.inr (4, [.null, .int 0, .int 0])) := cAt_last
  have hw : tW (dC, dI) y_104 κ_103 B A s (w_105 ++ [(q_106, .inr (4, [.null, .int 0, .int 0]))]) H locs := ⟨hw.1, hP, hD, hS, hw.2.2.2.2.appT SubT.rf⟩
  clear hf hP hD hS
  generalize (w_105 ++ [(q_106, .inr (4, [.null, .int 0, .int 0]))]) = w_107 at hw hG c_q_106 c_a0 c_q_19 c_q_77 fx_q_66 fm_q_66 fc_q_66 fx_q_82 fm_q_82 fc_q_82 fx_q_88 fm_q_88 fc_q_88 fx_q_94 fm_q_94 fc_q_94 fx_q_100 fm_q_100 fc_q_100
  refine lv_dup hx hb dX11_init_136 rfl ?_
  refine t_callK (va_runI (As := []) (rest := [.ref q_106, .ref a0]) ⟨hx, hb, hml, hown, hts⟩ (k_X4_init l dC dI y_104 κ_103 B w_107 hw.2.2.2.2 q_106 n_q_106 c_q_106  H.size) (cwI 0 hts (gU tw_322) rfl rfl rfl (hts _ tw_9) (hts _ tw_320) (hts _ tw_321) rfl (by decide +kernel) ⟨(Nat.le_of_ble_eq_true rfl), (Nat.le_of_ble_eq_true rfl)⟩) ⟨cPre.blind, cPre.use hw.2.1 hw.1 hw.2.2.1 hE⟩ rfl rfl hl.1 rfl (lv_room (Nat.le_of_ble_eq_true rfl)) dX11_init_137 ⟨(Nat.le_of_ble_eq_true rfl), (Nat.le_of_ble_eq_true rfl)⟩) hw hA (fun _ h => h.1) (fun u H locs hp hw => ?_)
  obtain ⟨w_108, κ_109, y_110⟩ := u
  obtain ⟨_, hTs1, hGc, kn_q_106⟩ := hp
  dsimp only at hTs1 hGc kn_q_106 hw
  have hG := hG.call hGc z_q_106
  have hTs := hTs.trans hTs1
  have fx_q_66 := hGc.fld (nk k_q_66 n_q_106) fx_q_66
  have fm_q_66 := hGc.fld (nk k_q_66 n_q_106) fm_q_66
  have fc_q_66 := hGc.fld (nk k_q_66 n_q_106) fc_q_66
  have fx_q_82 := hGc.fld (nk k_q_82 n_q_106) fx_q_82
  have fm_q_82 := hGc.fld (nk k_q_82 n_q_106) fm_q_82
  have fc_q_82 := hGc.fld (nk k_q_82 n_q_106) fc_q_82
  have fx_q_88 := hGc.fld (nk k_q_88 n_q_106) fx_q_88
  have fm_q_88 := hGc.fld (nk k_q_88 n_q_106) fm_q_88
  have fc_q_88 := hGc.fld (nk k_q_88 n_q_106) fc_q_88
  have fx_q_94 := hGc.fld (nk k_q_94 n_q_106) fx_q_94
  have fm_q_94 := hGc.fld (nk k_q_94 n_q_106) fm_q_94
  have fc_q_94 := hGc.fld (nk k_q_94 n_q_106) fc_q_94
  have fx_q_100 := hGc.fld (nk k_q_100 n_q_106) fx_q_100
  have fm_q_100 := hGc.fld (nk k_q_100 n_q_106) fm_q_100
  have fc_q_100 := hGc.fld (nk k_q_100 n_q_106) fc_q_100
  have k_q_1 := hGc.1 _ _ k_q_1
  have k_q_7 := hGc.1 _ _ k_q_7
  have k_q_13 := hGc.1 _ _ k_q_13
  have k_q_24 := hGc.1 _ _ k_q_24
  have k_q_31 := hGc.1 _ _ k_q_31
  have k_q_38 := hGc.1 _ _ k_q_38
  have k_q_45 := hGc.1 _ _ k_q_45
  have k_q_52 := hGc.1 _ _ k_q_52
  have k_q_59 := hGc.1 _ _ k_q_59
  have k_q_68 := hGc.1 _ _ k_q_68
  have k_q_66 := hGc.1 _ _ k_q_66
  have k_q_82 := hGc.1 _ _ k_q_82
  have k_q_88 := hGc.1 _ _ k_q_88
  have k_q_94 := hGc.1 _ _ k_q_94
  have k_q_100 := hGc.1 _ _ k_q_100
  have n_a0 := (hGc.2 _ _ ne_a0_q_106 c_a0).2 n_a0
  have c_a0 := (hGc.2 _ _ ne_a0_q_106 c_a0).1
  have n_q_19 := (hGc.2 _ _ ne_q_19_q_106 c_q_19).2 n_q_19
  have c_q_19 := (hGc.2 _ _ ne_q_19_q_106 c_q_19).1
  have n_q_77 := (hGc.2 _ _ ne_q_77_q_106 c_q_77).2 n_q_77
  have c_q_77 := (hGc.2 _ _ ne_q_77_q_106 c_q_77).1
  have t_q_19 := t_q_19.elim (fun _ h => hTs1 _ _ h)
  have hF_q_19 := hF_q_19.ext hGc.1
  have t_q_77 := t_q_77.elim (fun _ h => hTs1 _ _ h)
  have hF_q_77 := hF_q_77.ext hGc.1
  have k_q_106 := kn_q_106
  clear kn_q_106 c_q_106 n_q_106
  refine t_putUF (ci := 11) (v := .ref q_106) (C := RX11) (T := TX11) (N := 12) hx hb hts iX11 tyX11 tyX11_ok nmX11 hown hw c_a0 n_a0 rfl 7 (by decide) (hts _ tw_430) (fun _ h9 => h9) rfl hin rfl (tyX11_ok 7 (by decide)) rfl rfl (Nat.le_of_ble_eq_true rfl) dX11_init_140 (fun w_111 H locs hw hk c_a0 => ?_)
  have c_a0 : cAt w_111 a0 (.inr (11, [.ref q_1, .ref q_7, .ref q_13, .ref q_19, .int 0, .ref q_66, .ref q_77, .ref q_106, .null, .null, .null, .null])) := c_a0
  have hG := hG.set hk (Or.inl rfl)
  have c_q_19 := hk _ _ (Ne.symm ne_a0_q_19) c_q_19
  have c_q_77 := hk _ _ (Ne.symm ne_a0_q_77) c_q_77
  have fx_q_66 := fld_hk hk (nk k_q_66 n_a0) fx_q_66
  have fm_q_66 := fld_hk hk (nk k_q_66 n_a0) fm_q_66
  have fc_q_66 := fld_hk hk (nk k_q_66 n_a0) fc_q_66
  have fx_q_82 := fld_hk hk (nk k_q_82 n_a0) fx_q_82
  have fm_q_82 := fld_hk hk (nk k_q_82 n_a0) fm_q_82
  have fc_q_82 := fld_hk hk (nk k_q_82 n_a0) fc_q_82
  have fx_q_88 := fld_hk hk (nk k_q_88 n_a0) fx_q_88
  have fm_q_88 := fld_hk hk (nk k_q_88 n_a0) fm_q_88
  have fc_q_88 := fld_hk hk (nk k_q_88 n_a0) fc_q_88
  have fx_q_94 := fld_hk hk (nk k_q_94 n_a0) fx_q_94
  have fm_q_94 := fld_hk hk (nk k_q_94 n_a0) fm_q_94
  have fc_q_94 := fld_hk hk (nk k_q_94 n_a0) fc_q_94
  have fx_q_100 := fld_hk hk (nk k_q_100 n_a0) fx_q_100
  have fm_q_100 := fld_hk hk (nk k_q_100 n_a0) fm_q_100
  have fc_q_100 := fld_hk hk (nk k_q_100 n_a0) fc_q_100
  refine lv_aload_n hx hb dX11_init_143 rfl (lv_at hl 1 rfl) ?_
  refine va_new (ci := 5) (fs := [.int 0, .int 0, .null, .null, .null, .int 0, .null, .null]) (C := RX5) (T := TX5) (N := 8) hx hb hts iX5 tyX5 tyX5_ok hown (hts _ tw_338) (hts _ tw_339) (hts _ tw_10) hw.1 hw.2.1 hw.2.2.1 hw.2.2.2.1 hA rfl dfX5 (Nat.le_of_ble_eq_true rfl) (Nat.le_of_ble_eq_true rfl) dX11_init_144 (fun q_112 H hP hD hS => ?_)
  have hf := fr_new hD
  have ne_a0_q_112 : a0 ≠ q_112 := fun z => hf _ (z ▸ c_a0)
  have ne_q_19_q_112 : q_19 ≠ q_112 := fun z => hf _ (z ▸ c_q_19)
  have ne_q_77_q_112 : q_77 ≠ q_112 := fun z => hf _ (z ▸ c_q_77)
  have ne_q_66_q_112 : q_66 ≠ q_112 := nk k_q_66 (hw.2.2.2.2.nn0 hf)
  have ne_q_82_q_112 : q_82 ≠ q_112 := nk k_q_82 (hw.2.2.2.2.nn0 hf)
  have ne_q_88_q_112 : q_88 ≠ q_112 := nk k_q_88 (hw.2.2.2.2.nn0 hf)
  have ne_q_94_q_112 : q_94 ≠ q_112 := nk k_q_94 (hw.2.2.2.2.nn0 hf)
  have ne_q_100_q_112 : q_100 ≠ q_112 := nk k_q_100 (hw.2.2.2.2.nn0 hf)
  have n_q_112 := hw.2.2.2.2.nn0 hf
  have z_q_112 := hG.fresh c_a0 hf
  have hG := hG.app (w1 := [(q_112, .inr (5, [.int 0, .int 0, .null, .null, .null, .int 0, .null, .null]))])
  have c_a0 := c_a0.app (w1 := [(q_112, .inr (5, [.int 0, .int 0, .null, .null, .null, .int 0, .null, .null]))])
  have c_q_19 := c_q_19.app (w1 := [(q_112, .inr (5, [.int 0, .int 0, .null, .null, .null, .int 0, .null, .null]))])
  have c_q_77 := c_q_77.app (w1 := [(q_112, .inr (5, [.int 0, .int 0, .null, .null, .null, .int 0, .null, .null]))])
  have fx_q_66 := fx_q_66.app (w1 := [(q_112, .inr (5, [.int 0, .int 0, .null, .null, .null, .int 0, .null, .null]))])
  have fm_q_66 := fm_q_66.app (w1 := [(q_112, .inr (5, [.int 0, .int 0, .null, .null, .null, .int 0, .null, .null]))])
  have fc_q_66 := fc_q_66.app (w1 := [(q_112, .inr (5, [.int 0, .int 0, .null, .null, .null, .int 0, .null, .null]))])
  have fx_q_82 := fx_q_82.app (w1 := [(q_112, .inr (5, [.int 0, .int 0, .null, .null, .null, .int 0, .null, .null]))])
  have fm_q_82 := fm_q_82.app (w1 := [(q_112, .inr (5, [.int 0, .int 0, .null, .null, .null, .int 0, .null, .null]))])
  have fc_q_82 := fc_q_82.app (w1 := [(q_112, .inr (5, [.int 0, .int 0, .null, .null, .null, .int 0, .null, .null]))])
  have fx_q_88 := fx_q_88.app (w1 := [(q_112, .inr (5, [.int 0, .int 0, .null, .null, .null, .int 0, .null, .null]))])
  have fm_q_88 := fm_q_88.app (w1 := [(q_112, .inr (5, [.int 0, .int 0, .null, .null, .null, .int 0, .null, .null]))])
  have fc_q_88 := fc_q_88.app (w1 := [(q_112, .inr (5, [.int 0, .int 0, .null, .null, .null, .int 0, .null, .null]))])
  have fx_q_94 := fx_q_94.app (w1 := [(q_112, .inr (5, [.int 0, .int 0, .null, .null, .null, .int 0, .null, .null]))])
  have fm_q_94 := fm_q_94.app (w1 := [(q_112, .inr (5, [.int 0, .int 0, .null, .null, .null, .int 0, .null, .null]))])
  have fc_q_94 := fc_q_94.app (w1 := [(q_112, .inr (5, [.int 0, .int 0, .null, .null, .null, .int 0, .null, .null]))])
  have fx_q_100 := fx_q_100.app (w1 := [(q_112, .inr (5, [.int 0, .int 0, .null, .null, .null, .int 0, .null, .null]))])
  have fm_q_100 := fm_q_100.app (w1 := [(q_112, .inr (5, [.int 0, .int 0, .null, .null, .null, .int 0, .null, .null]))])
  have fc_q_100 := fc_q_100.app (w1 := [(q_112, .inr (5, [.int 0, .int 0, .null, .null, .null, .int 0, .null, .null]))])
  have c_q_112 : cAt (w_111 ++ [(q_112, .inr (5, [.int 0, .int 0, .null, .null, .null, .int 0, .null, .null]))]) q_112 (.inr (5, [.int 0, .int 0, .null, .null, .null, .int 0, .null, .null])) := cAt_last
  have hw : tW (dC, dI) y_110 κ_109 B A s (w_111 ++ [(q_112, .inr (5, [.int 0, .int 0, .null, .null, .null, .int 0, .null, .null]))]) H locs := ⟨hw.1, hP, hD, hS, hw.2.2.2.2.appT SubT.rf⟩
  clear hf hP hD hS
  generalize (w_111 ++ [(q_112, .inr (5, [.int 0, .int 0, .null, .null, .null, .int 0, .null, .null]))]) = w_113 at hw hG c_q_112 c_a0 c_q_19 c_q_77 fx_q_66 fm_q_66 fc_q_66 fx_q_82 fm_q_82 fc_q_82 fx_q_88 fm_q_88 fc_q_88 fx_q_94 fm_q_94 fc_q_94 fx_q_100 fm_q_100 fc_q_100
  refine lv_dup hx hb dX11_init_147 rfl ?_
  refine t_callK (va_runI (As := []) (rest := [.ref q_112, .ref a0]) ⟨hx, hb, hml, hown, hts⟩ (k_X5_init l dC dI y_110 κ_109 B w_113 hw.2.2.2.2 q_112 n_q_112 c_q_112  H.size) (cwI 0 hts (gU tw_342) rfl rfl rfl (hts _ tw_10) (hts _ tw_340) (hts _ tw_341) rfl (by decide +kernel) ⟨(Nat.le_of_ble_eq_true rfl), (Nat.le_of_ble_eq_true rfl)⟩) ⟨cPre.blind, cPre.use hw.2.1 hw.1 hw.2.2.1 hE⟩ rfl rfl hl.1 rfl (lv_room (Nat.le_of_ble_eq_true rfl)) dX11_init_148 ⟨(Nat.le_of_ble_eq_true rfl), (Nat.le_of_ble_eq_true rfl)⟩) hw hA (fun _ h => h.1) (fun u H locs hp hw => ?_)
  obtain ⟨w_114, κ_115, y_116⟩ := u
  obtain ⟨_, hTs1, hGc, kn_q_112⟩ := hp
  dsimp only at hTs1 hGc kn_q_112 hw
  have hG := hG.call hGc z_q_112
  have hTs := hTs.trans hTs1
  have fx_q_66 := hGc.fld (nk k_q_66 n_q_112) fx_q_66
  have fm_q_66 := hGc.fld (nk k_q_66 n_q_112) fm_q_66
  have fc_q_66 := hGc.fld (nk k_q_66 n_q_112) fc_q_66
  have fx_q_82 := hGc.fld (nk k_q_82 n_q_112) fx_q_82
  have fm_q_82 := hGc.fld (nk k_q_82 n_q_112) fm_q_82
  have fc_q_82 := hGc.fld (nk k_q_82 n_q_112) fc_q_82
  have fx_q_88 := hGc.fld (nk k_q_88 n_q_112) fx_q_88
  have fm_q_88 := hGc.fld (nk k_q_88 n_q_112) fm_q_88
  have fc_q_88 := hGc.fld (nk k_q_88 n_q_112) fc_q_88
  have fx_q_94 := hGc.fld (nk k_q_94 n_q_112) fx_q_94
  have fm_q_94 := hGc.fld (nk k_q_94 n_q_112) fm_q_94
  have fc_q_94 := hGc.fld (nk k_q_94 n_q_112) fc_q_94
  have fx_q_100 := hGc.fld (nk k_q_100 n_q_112) fx_q_100
  have fm_q_100 := hGc.fld (nk k_q_100 n_q_112) fm_q_100
  have fc_q_100 := hGc.fld (nk k_q_100 n_q_112) fc_q_100
  have k_q_1 := hGc.1 _ _ k_q_1
  have k_q_7 := hGc.1 _ _ k_q_7
  have k_q_13 := hGc.1 _ _ k_q_13
  have k_q_24 := hGc.1 _ _ k_q_24
  have k_q_31 := hGc.1 _ _ k_q_31
  have k_q_38 := hGc.1 _ _ k_q_38
  have k_q_45 := hGc.1 _ _ k_q_45
  have k_q_52 := hGc.1 _ _ k_q_52
  have k_q_59 := hGc.1 _ _ k_q_59
  have k_q_68 := hGc.1 _ _ k_q_68
  have k_q_66 := hGc.1 _ _ k_q_66
  have k_q_82 := hGc.1 _ _ k_q_82
  have k_q_88 := hGc.1 _ _ k_q_88
  have k_q_94 := hGc.1 _ _ k_q_94
  have k_q_100 := hGc.1 _ _ k_q_100
  have k_q_106 := hGc.1 _ _ k_q_106
  have n_a0 := (hGc.2 _ _ ne_a0_q_112 c_a0).2 n_a0
  have c_a0 := (hGc.2 _ _ ne_a0_q_112 c_a0).1
  have n_q_19 := (hGc.2 _ _ ne_q_19_q_112 c_q_19).2 n_q_19
  have c_q_19 := (hGc.2 _ _ ne_q_19_q_112 c_q_19).1
  have n_q_77 := (hGc.2 _ _ ne_q_77_q_112 c_q_77).2 n_q_77
  have c_q_77 := (hGc.2 _ _ ne_q_77_q_112 c_q_77).1
  have t_q_19 := t_q_19.elim (fun _ h => hTs1 _ _ h)
  have hF_q_19 := hF_q_19.ext hGc.1
  have t_q_77 := t_q_77.elim (fun _ h => hTs1 _ _ h)
  have hF_q_77 := hF_q_77.ext hGc.1
  have k_q_112 := kn_q_112
  clear kn_q_112 c_q_112 n_q_112
  refine t_putUF (ci := 11) (v := .ref q_112) (C := RX11) (T := TX11) (N := 12) hx hb hts iX11 tyX11 tyX11_ok nmX11 hown hw c_a0 n_a0 rfl 8 (by decide) (hts _ tw_431) (fun _ h9 => h9) rfl hin rfl (tyX11_ok 8 (by decide)) rfl rfl (Nat.le_of_ble_eq_true rfl) dX11_init_151 (fun w_117 H locs hw hk c_a0 => ?_)
  have c_a0 : cAt w_117 a0 (.inr (11, [.ref q_1, .ref q_7, .ref q_13, .ref q_19, .int 0, .ref q_66, .ref q_77, .ref q_106, .ref q_112, .null, .null, .null])) := c_a0
  have hG := hG.set hk (Or.inl rfl)
  have c_q_19 := hk _ _ (Ne.symm ne_a0_q_19) c_q_19
  have c_q_77 := hk _ _ (Ne.symm ne_a0_q_77) c_q_77
  have fx_q_66 := fld_hk hk (nk k_q_66 n_a0) fx_q_66
  have fm_q_66 := fld_hk hk (nk k_q_66 n_a0) fm_q_66
  have fc_q_66 := fld_hk hk (nk k_q_66 n_a0) fc_q_66
  have fx_q_82 := fld_hk hk (nk k_q_82 n_a0) fx_q_82
  have fm_q_82 := fld_hk hk (nk k_q_82 n_a0) fm_q_82
  have fc_q_82 := fld_hk hk (nk k_q_82 n_a0) fc_q_82
  have fx_q_88 := fld_hk hk (nk k_q_88 n_a0) fx_q_88
  have fm_q_88 := fld_hk hk (nk k_q_88 n_a0) fm_q_88
  have fc_q_88 := fld_hk hk (nk k_q_88 n_a0) fc_q_88
  have fx_q_94 := fld_hk hk (nk k_q_94 n_a0) fx_q_94
  have fm_q_94 := fld_hk hk (nk k_q_94 n_a0) fm_q_94
  have fc_q_94 := fld_hk hk (nk k_q_94 n_a0) fc_q_94
  have fx_q_100 := fld_hk hk (nk k_q_100 n_a0) fx_q_100
  have fm_q_100 := fld_hk hk (nk k_q_100 n_a0) fm_q_100
  have fc_q_100 := fld_hk hk (nk k_q_100 n_a0) fc_q_100
  refine lv_aload_n hx hb dX11_init_154 rfl (lv_at hl 1 rfl) ?_
  refine va_new (ci := 3) (fs := [.null, .long 0, .int 0, .int 0]) (C := RX3) (T := TX3) (N := 4) hx hb hts iX3 tyX3 tyX3_ok hown (hts _ tw_373) (hts _ tw_374) (hts _ tw_11) hw.1 hw.2.1 hw.2.2.1 hw.2.2.2.1 hA rfl dfX3 (Nat.le_of_ble_eq_true rfl) (Nat.le_of_ble_eq_true rfl) dX11_init_155 (fun q_118 H hP hD hS => ?_)
  have hf := fr_new hD
  have ne_a0_q_118 : a0 ≠ q_118 := fun z => hf _ (z ▸ c_a0)
  have ne_q_19_q_118 : q_19 ≠ q_118 := fun z => hf _ (z ▸ c_q_19)
  have ne_q_77_q_118 : q_77 ≠ q_118 := fun z => hf _ (z ▸ c_q_77)
  have ne_q_66_q_118 : q_66 ≠ q_118 := nk k_q_66 (hw.2.2.2.2.nn0 hf)
  have ne_q_82_q_118 : q_82 ≠ q_118 := nk k_q_82 (hw.2.2.2.2.nn0 hf)
  have ne_q_88_q_118 : q_88 ≠ q_118 := nk k_q_88 (hw.2.2.2.2.nn0 hf)
  have ne_q_94_q_118 : q_94 ≠ q_118 := nk k_q_94 (hw.2.2.2.2.nn0 hf)
  have ne_q_100_q_118 : q_100 ≠ q_118 := nk k_q_100 (hw.2.2.2.2.nn0 hf)
  have n_q_118 := hw.2.2.2.2.nn0 hf
  have z_q_118 := hG.fresh c_a0 hf
  have hG := hG.app (w1 := [(q_118, .inr (3, [.null, .long 0, .int 0, .int 0]))])
  have c_a0 := c_a0.app (w1 := [(q_118, .inr (3, [.null, .long 0, .int 0, .int 0]))])
  have c_q_19 := c_q_19.app (w1 := [(q_118, .inr (3, [.null, .long 0, .int 0, .int 0]))])
  have c_q_77 := c_q_77.app (w1 := [(q_118, .inr (3, [.null, .long 0, .int 0, .int 0]))])
  have fx_q_66 := fx_q_66.app (w1 := [(q_118, .inr (3, [.null, .long 0, .int 0, .int 0]))])
  have fm_q_66 := fm_q_66.app (w1 := [(q_118, .inr (3, [.null, .long 0, .int 0, .int 0]))])
  have fc_q_66 := fc_q_66.app (w1 := [(q_118, .inr (3, [.null, .long 0, .int 0, .int 0]))])
  have fx_q_82 := fx_q_82.app (w1 := [(q_118, .inr (3, [.null, .long 0, .int 0, .int 0]))])
  have fm_q_82 := fm_q_82.app (w1 := [(q_118, .inr (3, [.null, .long 0, .int 0, .int 0]))])
  have fc_q_82 := fc_q_82.app (w1 := [(q_118, .inr (3, [.null, .long 0, .int 0, .int 0]))])
  have fx_q_88 := fx_q_88.app (w1 := [(q_118, .inr (3, [.null, .long 0, .int 0, .int 0]))])
  have fm_q_88 := fm_q_88.app (w1 := [(q_118, .inr (3, [.null, .long 0, .int 0, .int 0]))])
  have fc_q_88 := fc_q_88.app (w1 := [(q_118, .inr (3, [.null, .long 0, .int 0, .int 0]))])
  have fx_q_94 := fx_q_94.app (w1 := [(q_118, .inr (3, [.null, .long 0, .int 0, .int 0]))])
  have fm_q_94 := fm_q_94.app (w1 := [(q_118, .inr (3, [.null, .long 0, .int 0, .int 0]))])
  have fc_q_94 := fc_q_94.app (w1 := [(q_118, .inr (3, [.null, .long 0, .int 0, .int 0]))])
  have fx_q_100 := fx_q_100.app (w1 := [(q_118, .inr (3, [.null, .long 0, .int 0, .int 0]))])
  have fm_q_100 := fm_q_100.app (w1 := [(q_118, .inr (3, [.null, .long 0, .int 0, .int 0]))])
  have fc_q_100 := fc_q_100.app (w1 := [(q_118, .inr (3, [.null, .long 0, .int 0, .int 0]))])
  have c_q_118 : cAt (w_117 ++ [(q_118, .inr (3, [.null, .long 0, .int 0, .int 0]))]) q_118 (.inr (3, [.null, .long 0, .int 0, .int 0])) := cAt_last
  have hw : tW (dC, dI) y_116 κ_115 B A s (w_117 ++ [(q_118, .inr (3, [.null, .long 0, .int 0, .int 0]))]) H locs := ⟨hw.1, hP, hD, hS, hw.2.2.2.2.appT SubT.rf⟩
  clear hf hP hD hS
  generalize (w_117 ++ [(q_118, .inr (3, [.null, .long 0, .int 0, .int 0]))]) = w_119 at hw hG c_q_118 c_a0 c_q_19 c_q_77 fx_q_66 fm_q_66 fc_q_66 fx_q_82 fm_q_82 fc_q_82 fx_q_88 fm_q_88 fc_q_88 fx_q_94 fm_q_94 fc_q_94 fx_q_100 fm_q_100 fc_q_100
  refine lv_dup hx hb dX11_init_158 rfl ?_
  refine lv_aload_n hx hb dX11_init_159 rfl (lv_at hl 1 rfl) ?_
  refine t_getk (ci := 11) (C := RX11) (T := TX11) (N := 12) hx hb hts iX11 hown hw rfl 8 (by decide) (hts _ tw_431) (fun _ h9 => h9) dX11_init_160 (c_a0.fld (k := 8) rfl) ?_
  refine t_callK (va_runI (As := [.ref q_112]) (rest := [.ref q_118, .ref a0]) ⟨hx, hb, hml, hown, hts⟩ (k_X3_init l dC dI y_116 κ_115 B w_119 hw.2.2.2.2 q_118 n_q_118 c_q_118 q_112 k_q_112 H.size) (cwI 1 hts (gU tw_377) rfl rfl rfl (hts _ tw_11) (hts _ tw_375) (hts _ tw_376) rfl (by decide +kernel) ⟨(Nat.le_of_ble_eq_true rfl), (Nat.le_of_ble_eq_true rfl)⟩) ⟨cPre.blind, cPre.use hw.2.1 hw.1 hw.2.2.1 hE⟩ rfl rfl hl.1 rfl (lv_room (Nat.le_of_ble_eq_true rfl)) dX11_init_163 ⟨(Nat.le_of_ble_eq_true rfl), (Nat.le_of_ble_eq_true rfl)⟩) hw hA (fun _ h => h.1) (fun u H locs hp hw => ?_)
  obtain ⟨w_120, κ_121, y_122⟩ := u
  obtain ⟨_, hTs1, hGc, kn_q_118⟩ := hp
  dsimp only at hTs1 hGc kn_q_118 hw
  have hG := hG.call hGc z_q_118
  have hTs := hTs.trans hTs1
  have fx_q_66 := hGc.fld (nk k_q_66 n_q_118) fx_q_66
  have fm_q_66 := hGc.fld (nk k_q_66 n_q_118) fm_q_66
  have fc_q_66 := hGc.fld (nk k_q_66 n_q_118) fc_q_66
  have fx_q_82 := hGc.fld (nk k_q_82 n_q_118) fx_q_82
  have fm_q_82 := hGc.fld (nk k_q_82 n_q_118) fm_q_82
  have fc_q_82 := hGc.fld (nk k_q_82 n_q_118) fc_q_82
  have fx_q_88 := hGc.fld (nk k_q_88 n_q_118) fx_q_88
  have fm_q_88 := hGc.fld (nk k_q_88 n_q_118) fm_q_88
  have fc_q_88 := hGc.fld (nk k_q_88 n_q_118) fc_q_88
  have fx_q_94 := hGc.fld (nk k_q_94 n_q_118) fx_q_94
  have fm_q_94 := hGc.fld (nk k_q_94 n_q_118) fm_q_94
  have fc_q_94 := hGc.fld (nk k_q_94 n_q_118) fc_q_94
  have fx_q_100 := hGc.fld (nk k_q_100 n_q_118) fx_q_100
  have fm_q_100 := hGc.fld (nk k_q_100 n_q_118) fm_q_100
  have fc_q_100 := hGc.fld (nk k_q_100 n_q_118) fc_q_100
  have k_q_1 := hGc.1 _ _ k_q_1
  have k_q_7 := hGc.1 _ _ k_q_7
  have k_q_13 := hGc.1 _ _ k_q_13
  have k_q_24 := hGc.1 _ _ k_q_24
  have k_q_31 := hGc.1 _ _ k_q_31
  have k_q_38 := hGc.1 _ _ k_q_38
  have k_q_45 := hGc.1 _ _ k_q_45
  have k_q_52 := hGc.1 _ _ k_q_52
  have k_q_59 := hGc.1 _ _ k_q_59
  have k_q_68 := hGc.1 _ _ k_q_68
  have k_q_66 := hGc.1 _ _ k_q_66
  have k_q_82 := hGc.1 _ _ k_q_82
  have k_q_88 := hGc.1 _ _ k_q_88
  have k_q_94 := hGc.1 _ _ k_q_94
  have k_q_100 := hGc.1 _ _ k_q_100
  have k_q_106 := hGc.1 _ _ k_q_106
  have k_q_112 := hGc.1 _ _ k_q_112
  have n_a0 := (hGc.2 _ _ ne_a0_q_118 c_a0).2 n_a0
  have c_a0 := (hGc.2 _ _ ne_a0_q_118 c_a0).1
  have n_q_19 := (hGc.2 _ _ ne_q_19_q_118 c_q_19).2 n_q_19
  have c_q_19 := (hGc.2 _ _ ne_q_19_q_118 c_q_19).1
  have n_q_77 := (hGc.2 _ _ ne_q_77_q_118 c_q_77).2 n_q_77
  have c_q_77 := (hGc.2 _ _ ne_q_77_q_118 c_q_77).1
  have t_q_19 := t_q_19.elim (fun _ h => hTs1 _ _ h)
  have hF_q_19 := hF_q_19.ext hGc.1
  have t_q_77 := t_q_77.elim (fun _ h => hTs1 _ _ h)
  have hF_q_77 := hF_q_77.ext hGc.1
  have k_q_118 := kn_q_118
  clear kn_q_118 c_q_118 n_q_118
  refine t_putUF (ci := 11) (v := .ref q_118) (C := RX11) (T := TX11) (N := 12) hx hb hts iX11 tyX11 tyX11_ok nmX11 hown hw c_a0 n_a0 rfl 9 (by decide) (hts _ tw_432) (fun _ h9 => h9) rfl hin rfl (tyX11_ok 9 (by decide)) rfl rfl (Nat.le_of_ble_eq_true rfl) dX11_init_166 (fun w_123 H locs hw hk c_a0 => ?_)
  have c_a0 : cAt w_123 a0 (.inr (11, [.ref q_1, .ref q_7, .ref q_13, .ref q_19, .int 0, .ref q_66, .ref q_77, .ref q_106, .ref q_112, .ref q_118, .null, .null])) := c_a0
  have hG := hG.set hk (Or.inl rfl)
  have c_q_19 := hk _ _ (Ne.symm ne_a0_q_19) c_q_19
  have c_q_77 := hk _ _ (Ne.symm ne_a0_q_77) c_q_77
  have fx_q_66 := fld_hk hk (nk k_q_66 n_a0) fx_q_66
  have fm_q_66 := fld_hk hk (nk k_q_66 n_a0) fm_q_66
  have fc_q_66 := fld_hk hk (nk k_q_66 n_a0) fc_q_66
  have fx_q_82 := fld_hk hk (nk k_q_82 n_a0) fx_q_82
  have fm_q_82 := fld_hk hk (nk k_q_82 n_a0) fm_q_82
  have fc_q_82 := fld_hk hk (nk k_q_82 n_a0) fc_q_82
  have fx_q_88 := fld_hk hk (nk k_q_88 n_a0) fx_q_88
  have fm_q_88 := fld_hk hk (nk k_q_88 n_a0) fm_q_88
  have fc_q_88 := fld_hk hk (nk k_q_88 n_a0) fc_q_88
  have fx_q_94 := fld_hk hk (nk k_q_94 n_a0) fx_q_94
  have fm_q_94 := fld_hk hk (nk k_q_94 n_a0) fm_q_94
  have fc_q_94 := fld_hk hk (nk k_q_94 n_a0) fc_q_94
  have fx_q_100 := fld_hk hk (nk k_q_100 n_a0) fx_q_100
  have fm_q_100 := fld_hk hk (nk k_q_100 n_a0) fm_q_100
  have fc_q_100 := fld_hk hk (nk k_q_100 n_a0) fc_q_100
  refine lv_aload_n hx hb dX11_init_169 rfl (lv_at hl 1 rfl) ?_
  refine va_new (ci := 2) (fs := [.null, .null, .null, .null, .int 0]) (C := RX2) (T := TX2) (N := 5) hx hb hts iX2 tyX2 tyX2_ok hown (hts _ tw_394) (hts _ tw_395) (hts _ tw_12) hw.1 hw.2.1 hw.2.2.1 hw.2.2.2.1 hA rfl dfX2 (Nat.le_of_ble_eq_true rfl) (Nat.le_of_ble_eq_true rfl) dX11_init_170 (fun q_124 H hP hD hS => ?_)
  have hf := fr_new hD
  have ne_a0_q_124 : a0 ≠ q_124 := fun z => hf _ (z ▸ c_a0)
  have ne_q_19_q_124 : q_19 ≠ q_124 := fun z => hf _ (z ▸ c_q_19)
  have ne_q_77_q_124 : q_77 ≠ q_124 := fun z => hf _ (z ▸ c_q_77)
  have ne_q_66_q_124 : q_66 ≠ q_124 := nk k_q_66 (hw.2.2.2.2.nn0 hf)
  have ne_q_82_q_124 : q_82 ≠ q_124 := nk k_q_82 (hw.2.2.2.2.nn0 hf)
  have ne_q_88_q_124 : q_88 ≠ q_124 := nk k_q_88 (hw.2.2.2.2.nn0 hf)
  have ne_q_94_q_124 : q_94 ≠ q_124 := nk k_q_94 (hw.2.2.2.2.nn0 hf)
  have ne_q_100_q_124 : q_100 ≠ q_124 := nk k_q_100 (hw.2.2.2.2.nn0 hf)
  have n_q_124 := hw.2.2.2.2.nn0 hf
  have z_q_124 := hG.fresh c_a0 hf
  have hG := hG.app (w1 := [(q_124, .inr (2, [.null, .null, .null, .null, .int 0]))])
  have c_a0 := c_a0.app (w1 := [(q_124, .inr (2, [.null, .null, .null, .null, .int 0]))])
  have c_q_19 := c_q_19.app (w1 := [(q_124, .inr (2, [.null, .null, .null, .null, .int 0]))])
  have c_q_77 := c_q_77.app (w1 := [(q_124, .inr (2, [.null, .null, .null, .null, .int 0]))])
  have fx_q_66 := fx_q_66.app (w1 := [(q_124, .inr (2, [.null, .null, .null, .null, .int 0]))])
  have fm_q_66 := fm_q_66.app (w1 := [(q_124, .inr (2, [.null, .null, .null, .null, .int 0]))])
  have fc_q_66 := fc_q_66.app (w1 := [(q_124, .inr (2, [.null, .null, .null, .null, .int 0]))])
  have fx_q_82 := fx_q_82.app (w1 := [(q_124, .inr (2, [.null, .null, .null, .null, .int 0]))])
  have fm_q_82 := fm_q_82.app (w1 := [(q_124, .inr (2, [.null, .null, .null, .null, .int 0]))])
  have fc_q_82 := fc_q_82.app (w1 := [(q_124, .inr (2, [.null, .null, .null, .null, .int 0]))])
  have fx_q_88 := fx_q_88.app (w1 := [(q_124, .inr (2, [.null, .null, .null, .null, .int 0]))])
  have fm_q_88 := fm_q_88.app (w1 := [(q_124, .inr (2, [.null, .null, .null, .null, .int 0]))])
  have fc_q_88 := fc_q_88.app (w1 := [(q_124, .inr (2, [.null, .null, .null, .null, .int 0]))])
  have fx_q_94 := fx_q_94.app (w1 := [(q_124, .inr (2, [.null, .null, .null, .null, .int 0]))])
  have fm_q_94 := fm_q_94.app (w1 := [(q_124, .inr (2, [.null, .null, .null, .null, .int 0]))])
  have fc_q_94 := fc_q_94.app (w1 := [(q_124, .inr (2, [.null, .null, .null, .null, .int 0]))])
  have fx_q_100 := fx_q_100.app (w1 := [(q_124, .inr (2, [.null, .null, .null, .null, .int 0]))])
  have fm_q_100 := fm_q_100.app (w1 := [(q_124, .inr (2, [.null, .null, .null, .null, .int 0]))])
  have fc_q_100 := fc_q_100.app (w1 := [(q_124, .inr (2, [.null, .null, .null, .null, .int 0]))])
  have c_q_124 : cAt (w_123 ++ [(q_124, .inr (2, [.null, .null, .null, .null, .int 0]))]) q_124 (.inr (2, [.null, .null, .null, .null, .int 0])) := cAt_last
  have hw : tW (dC, dI) y_122 κ_121 B A s (w_123 ++ [(q_124, .inr (2, [.null, .null, .null, .null, .int 0]))]) H locs := ⟨hw.1, hP, hD, hS, hw.2.2.2.2.appT SubT.rf⟩
  clear hf hP hD hS
  generalize (w_123 ++ [(q_124, .inr (2, [.null, .null, .null, .null, .int 0]))]) = w_125 at hw hG c_q_124 c_a0 c_q_19 c_q_77 fx_q_66 fm_q_66 fc_q_66 fx_q_82 fm_q_82 fc_q_82 fx_q_88 fm_q_88 fc_q_88 fx_q_94 fm_q_94 fc_q_94 fx_q_100 fm_q_100 fc_q_100
  refine lv_dup hx hb dX11_init_173 rfl ?_
  refine lv_aload_n hx hb dX11_init_174 rfl (lv_at hl 1 rfl) ?_
  refine t_getk (ci := 11) (C := RX11) (T := TX11) (N := 12) hx hb hts iX11 hown hw rfl 9 (by decide) (hts _ tw_432) (fun _ h9 => h9) dX11_init_175 (c_a0.fld (k := 9) rfl) ?_
  refine t_callK (va_runI (As := [.ref q_118]) (rest := [.ref q_124, .ref a0]) ⟨hx, hb, hml, hown, hts⟩ (k_X2_init l dC dI y_122 κ_121 B w_125 hw.2.2.2.2 q_124 n_q_124 c_q_124 q_118 k_q_118 H.size) (cwI 1 hts (gU tw_398) rfl rfl rfl (hts _ tw_12) (hts _ tw_396) (hts _ tw_397) rfl (by decide +kernel) ⟨(Nat.le_of_ble_eq_true rfl), (Nat.le_of_ble_eq_true rfl)⟩) ⟨cPre.blind, cPre.use hw.2.1 hw.1 hw.2.2.1 hE⟩ rfl rfl hl.1 rfl (lv_room (Nat.le_of_ble_eq_true rfl)) dX11_init_178 ⟨(Nat.le_of_ble_eq_true rfl), (Nat.le_of_ble_eq_true rfl)⟩) hw hA (fun _ h => h.1) (fun u H locs hp hw => ?_)
  obtain ⟨w_126, κ_127, y_128⟩ := u
  obtain ⟨_, hTs1, hGc, kn_q_124⟩ := hp
  dsimp only at hTs1 hGc kn_q_124 hw
  have hG := hG.call hGc z_q_124
  have hTs := hTs.trans hTs1
  have fx_q_66 := hGc.fld (nk k_q_66 n_q_124) fx_q_66
  have fm_q_66 := hGc.fld (nk k_q_66 n_q_124) fm_q_66
  have fc_q_66 := hGc.fld (nk k_q_66 n_q_124) fc_q_66
  have fx_q_82 := hGc.fld (nk k_q_82 n_q_124) fx_q_82
  have fm_q_82 := hGc.fld (nk k_q_82 n_q_124) fm_q_82
  have fc_q_82 := hGc.fld (nk k_q_82 n_q_124) fc_q_82
  have fx_q_88 := hGc.fld (nk k_q_88 n_q_124) fx_q_88
  have fm_q_88 := hGc.fld (nk k_q_88 n_q_124) fm_q_88
  have fc_q_88 := hGc.fld (nk k_q_88 n_q_124) fc_q_88
  have fx_q_94 := hGc.fld (nk k_q_94 n_q_124) fx_q_94
  have fm_q_94 := hGc.fld (nk k_q_94 n_q_124) fm_q_94
  have fc_q_94 := hGc.fld (nk k_q_94 n_q_124) fc_q_94
  have fx_q_100 := hGc.fld (nk k_q_100 n_q_124) fx_q_100
  have fm_q_100 := hGc.fld (nk k_q_100 n_q_124) fm_q_100
  have fc_q_100 := hGc.fld (nk k_q_100 n_q_124) fc_q_100
  have k_q_1 := hGc.1 _ _ k_q_1
  have k_q_7 := hGc.1 _ _ k_q_7
  have k_q_13 := hGc.1 _ _ k_q_13
  have k_q_24 := hGc.1 _ _ k_q_24
  have k_q_31 := hGc.1 _ _ k_q_31
  have k_q_38 := hGc.1 _ _ k_q_38
  have k_q_45 := hGc.1 _ _ k_q_45
  have k_q_52 := hGc.1 _ _ k_q_52
  have k_q_59 := hGc.1 _ _ k_q_59
  have k_q_68 := hGc.1 _ _ k_q_68
  have k_q_66 := hGc.1 _ _ k_q_66
  have k_q_82 := hGc.1 _ _ k_q_82
  have k_q_88 := hGc.1 _ _ k_q_88
  have k_q_94 := hGc.1 _ _ k_q_94
  have k_q_100 := hGc.1 _ _ k_q_100
  have k_q_106 := hGc.1 _ _ k_q_106
  have k_q_112 := hGc.1 _ _ k_q_112
  have k_q_118 := hGc.1 _ _ k_q_118
  have n_a0 := (hGc.2 _ _ ne_a0_q_124 c_a0).2 n_a0
  have c_a0 := (hGc.2 _ _ ne_a0_q_124 c_a0).1
  have n_q_19 := (hGc.2 _ _ ne_q_19_q_124 c_q_19).2 n_q_19
  have c_q_19 := (hGc.2 _ _ ne_q_19_q_124 c_q_19).1
  have n_q_77 := (hGc.2 _ _ ne_q_77_q_124 c_q_77).2 n_q_77
  have c_q_77 := (hGc.2 _ _ ne_q_77_q_124 c_q_77).1
  have t_q_19 := t_q_19.elim (fun _ h => hTs1 _ _ h)
  have hF_q_19 := hF_q_19.ext hGc.1
  have t_q_77 := t_q_77.elim (fun _ h => hTs1 _ _ h)
  have hF_q_77 := hF_q_77.ext hGc.1
  have k_q_124 := kn_q_124
  clear kn_q_124 c_q_124 n_q_124
  refine t_putUF (ci := 11) (v := .ref q_124) (C := RX11) (T := TX11) (N := 12) hx hb hts iX11 tyX11 tyX11_ok nmX11 hown hw c_a0 n_a0 rfl 10 (by decide) (hts _ tw_433) (fun _ h9 => h9) rfl hin rfl (tyX11_ok 10 (by decide)) rfl rfl (Nat.le_of_ble_eq_true rfl) dX11_init_181 (fun w_129 H locs hw hk c_a0 => ?_)
  have c_a0 : cAt w_129 a0 (.inr (11, [.ref q_1, .ref q_7, .ref q_13, .ref q_19, .int 0, .ref q_66, .ref q_77, .ref q_106, .ref q_112, .ref q_118, .ref q_124, .null])) := c_a0
  have hG := hG.set hk (Or.inl rfl)
  have c_q_19 := hk _ _ (Ne.symm ne_a0_q_19) c_q_19
  have c_q_77 := hk _ _ (Ne.symm ne_a0_q_77) c_q_77
  have fx_q_66 := fld_hk hk (nk k_q_66 n_a0) fx_q_66
  have fm_q_66 := fld_hk hk (nk k_q_66 n_a0) fm_q_66
  have fc_q_66 := fld_hk hk (nk k_q_66 n_a0) fc_q_66
  have fx_q_82 := fld_hk hk (nk k_q_82 n_a0) fx_q_82
  have fm_q_82 := fld_hk hk (nk k_q_82 n_a0) fm_q_82
  have fc_q_82 := fld_hk hk (nk k_q_82 n_a0) fc_q_82
  have fx_q_88 := fld_hk hk (nk k_q_88 n_a0) fx_q_88
  have fm_q_88 := fld_hk hk (nk k_q_88 n_a0) fm_q_88
  have fc_q_88 := fld_hk hk (nk k_q_88 n_a0) fc_q_88
  have fx_q_94 := fld_hk hk (nk k_q_94 n_a0) fx_q_94
  have fm_q_94 := fld_hk hk (nk k_q_94 n_a0) fm_q_94
  have fc_q_94 := fld_hk hk (nk k_q_94 n_a0) fc_q_94
  have fx_q_100 := fld_hk hk (nk k_q_100 n_a0) fx_q_100
  have fm_q_100 := fld_hk hk (nk k_q_100 n_a0) fm_q_100
  have fc_q_100 := fld_hk hk (nk k_q_100 n_a0) fc_q_100
  refine lv_aload_n hx hb dX11_init_184 rfl (lv_at hl 1 rfl) ?_
  refine va_new (ci := 8) (fs := [.int 0, .int 0, .int 0, .int 0, .int 0, .int 0, .int 0, .null, .null, .null, .null, .null, .null]) (C := RX8) (T := TX8) (N := 13) hx hb hts iX8 tyX8 tyX8_ok hown (hts _ tw_421) (hts _ tw_215) (hts _ tw_8) hw.1 hw.2.1 hw.2.2.1 hw.2.2.2.1 hA rfl dfX8 (Nat.le_of_ble_eq_true rfl) (Nat.le_of_ble_eq_true rfl) dX11_init_185 (fun q_130 H hP hD hS => ?_)
  have hf := fr_new hD
  have ne_a0_q_130 : a0 ≠ q_130 := fun z => hf _ (z ▸ c_a0)
  have ne_q_19_q_130 : q_19 ≠ q_130 := fun z => hf _ (z ▸ c_q_19)
  have ne_q_77_q_130 : q_77 ≠ q_130 := fun z => hf _ (z ▸ c_q_77)
  have ne_q_66_q_130 : q_66 ≠ q_130 := nk k_q_66 (hw.2.2.2.2.nn0 hf)
  have ne_q_82_q_130 : q_82 ≠ q_130 := nk k_q_82 (hw.2.2.2.2.nn0 hf)
  have ne_q_88_q_130 : q_88 ≠ q_130 := nk k_q_88 (hw.2.2.2.2.nn0 hf)
  have ne_q_94_q_130 : q_94 ≠ q_130 := nk k_q_94 (hw.2.2.2.2.nn0 hf)
  have ne_q_100_q_130 : q_100 ≠ q_130 := nk k_q_100 (hw.2.2.2.2.nn0 hf)
  have n_q_130 := hw.2.2.2.2.nn0 hf
  have z_q_130 := hG.fresh c_a0 hf
  have hG := hG.app (w1 := [(q_130, .inr (8, [.int 0, .int 0, .int 0, .int 0, .int 0, .int 0, .int 0, .null, .null, .null, .null, .null, .null]))])
  have c_a0 := c_a0.app (w1 := [(q_130, .inr (8, [.int 0, .int 0, .int 0, .int 0, .int 0, .int 0, .int 0, .null, .null, .null, .null, .null, .null]))])
  have c_q_19 := c_q_19.app (w1 := [(q_130, .inr (8, [.int 0, .int 0, .int 0, .int 0, .int 0, .int 0, .int 0, .null, .null, .null, .null, .null, .null]))])
  have c_q_77 := c_q_77.app (w1 := [(q_130, .inr (8, [.int 0, .int 0, .int 0, .int 0, .int 0, .int 0, .int 0, .null, .null, .null, .null, .null, .null]))])
  have fx_q_66 := fx_q_66.app (w1 := [(q_130, .inr (8, [.int 0, .int 0, .int 0, .int 0, .int 0, .int 0, .int 0, .null, .null, .null, .null, .null, .null]))])
  have fm_q_66 := fm_q_66.app (w1 := [(q_130, .inr (8, [.int 0, .int 0, .int 0, .int 0, .int 0, .int 0, .int 0, .null, .null, .null, .null, .null, .null]))])
  have fc_q_66 := fc_q_66.app (w1 := [(q_130, .inr (8, [.int 0, .int 0, .int 0, .int 0, .int 0, .int 0, .int 0, .null, .null, .null, .null, .null, .null]))])
  have fx_q_82 := fx_q_82.app (w1 := [(q_130, .inr (8, [.int 0, .int 0, .int 0, .int 0, .int 0, .int 0, .int 0, .null, .null, .null, .null, .null, .null]))])
  have fm_q_82 := fm_q_82.app (w1 := [(q_130, .inr (8, [.int 0, .int 0, .int 0, .int 0, .int 0, .int 0, .int 0, .null, .null, .null, .null, .null, .null]))])
  have fc_q_82 := fc_q_82.app (w1 := [(q_130, .inr (8, [.int 0, .int 0, .int 0, .int 0, .int 0, .int 0, .int 0, .null, .null, .null, .null, .null, .null]))])
  have fx_q_88 := fx_q_88.app (w1 := [(q_130, .inr (8, [.int 0, .int 0, .int 0, .int 0, .int 0, .int 0, .int 0, .null, .null, .null, .null, .null, .null]))])
  have fm_q_88 := fm_q_88.app (w1 := [(q_130, .inr (8, [.int 0, .int 0, .int 0, .int 0, .int 0, .int 0, .int 0, .null, .null, .null, .null, .null, .null]))])
  have fc_q_88 := fc_q_88.app (w1 := [(q_130, .inr (8, [.int 0, .int 0, .int 0, .int 0, .int 0, .int 0, .int 0, .null, .null, .null, .null, .null, .null]))])
  have fx_q_94 := fx_q_94.app (w1 := [(q_130, .inr (8, [.int 0, .int 0, .int 0, .int 0, .int 0, .int 0, .int 0, .null, .null, .null, .null, .null, .null]))])
  have fm_q_94 := fm_q_94.app (w1 := [(q_130, .inr (8, [.int 0, .int 0, .int 0, .int 0, .int 0, .int 0, .int 0, .null, .null, .null, .null, .null, .null]))])
  have fc_q_94 := fc_q_94.app (w1 := [(q_130, .inr (8, [.int 0, .int 0, .int 0, .int 0, .int 0, .int 0, .int 0, .null, .null, .null, .null, .null, .null]))])
  have fx_q_100 := fx_q_100.app (w1 := [(q_130, .inr (8, [.int 0, .int 0, .int 0, .int 0, .int 0, .int 0, .int 0, .null, .null, .null, .null, .null, .null]))])
  have fm_q_100 := fm_q_100.app (w1 := [(q_130, .inr (8, [.int 0, .int 0, .int 0, .int 0, .int 0, .int 0, .int 0, .null, .null, .null, .null, .null, .null]))])
  have fc_q_100 := fc_q_100.app (w1 := [(q_130, .inr (8, [.int 0, .int 0, .int 0, .int 0, .int 0, .int 0, .int 0, .null, .null, .null, .null, .null, .null]))])
  have c_q_130 : cAt (w_129 ++ [(q_130, .inr (8, [.int 0, .int 0, .int 0, .int 0, .int 0, .int 0, .int 0, .null, .null, .null, .null, .null, .null]))]) q_130 (.inr (8, [.int 0, .int 0, .int 0, .int 0, .int 0, .int 0, .int 0, .null, .null, .null, .null, .null, .null])) := cAt_last
  have hw : tW (dC, dI) y_128 κ_127 B A s (w_129 ++ [(q_130, .inr (8, [.int 0, .int 0, .int 0, .int 0, .int 0, .int 0, .int 0, .null, .null, .null, .null, .null, .null]))]) H locs := ⟨hw.1, hP, hD, hS, hw.2.2.2.2.appT SubT.rf⟩
  clear hf hP hD hS
  generalize (w_129 ++ [(q_130, .inr (8, [.int 0, .int 0, .int 0, .int 0, .int 0, .int 0, .int 0, .null, .null, .null, .null, .null, .null]))]) = w_131 at hw hG c_q_130 c_a0 c_q_19 c_q_77 fx_q_66 fm_q_66 fc_q_66 fx_q_82 fm_q_82 fc_q_82 fx_q_88 fm_q_88 fc_q_88 fx_q_94 fm_q_94 fc_q_94 fx_q_100 fm_q_100 fc_q_100
  refine lv_dup hx hb dX11_init_188 rfl ?_
  refine t_callK (va_runI (As := []) (rest := [.ref q_130, .ref a0]) ⟨hx, hb, hml, hown, hts⟩ (k_X8_init l dC dI y_128 κ_127 B w_131 hw.2.2.2.2 q_130 n_q_130 c_q_130  H.size) (cwI 0 hts (gU tw_218) rfl rfl rfl (hts _ tw_8) (hts _ tw_422) (hts _ tw_217) rfl (by decide +kernel) ⟨(Nat.le_of_ble_eq_true rfl), (Nat.le_of_ble_eq_true rfl)⟩) ⟨cPre.blind, cPre.use hw.2.1 hw.1 hw.2.2.1 hE⟩ rfl rfl hl.1 rfl (lv_room (Nat.le_of_ble_eq_true rfl)) dX11_init_189 ⟨(Nat.le_of_ble_eq_true rfl), (Nat.le_of_ble_eq_true rfl)⟩) hw hA (fun _ h => h.1) (fun u H locs hp hw => ?_)
  obtain ⟨w_132, κ_133, y_134⟩ := u
  obtain ⟨_, hTs1, hGc, kn_q_130⟩ := hp
  dsimp only at hTs1 hGc kn_q_130 hw
  have hG := hG.call hGc z_q_130
  have hTs := hTs.trans hTs1
  have fx_q_66 := hGc.fld (nk k_q_66 n_q_130) fx_q_66
  have fm_q_66 := hGc.fld (nk k_q_66 n_q_130) fm_q_66
  have fc_q_66 := hGc.fld (nk k_q_66 n_q_130) fc_q_66
  have fx_q_82 := hGc.fld (nk k_q_82 n_q_130) fx_q_82
  have fm_q_82 := hGc.fld (nk k_q_82 n_q_130) fm_q_82
  have fc_q_82 := hGc.fld (nk k_q_82 n_q_130) fc_q_82
  have fx_q_88 := hGc.fld (nk k_q_88 n_q_130) fx_q_88
  have fm_q_88 := hGc.fld (nk k_q_88 n_q_130) fm_q_88
  have fc_q_88 := hGc.fld (nk k_q_88 n_q_130) fc_q_88
  have fx_q_94 := hGc.fld (nk k_q_94 n_q_130) fx_q_94
  have fm_q_94 := hGc.fld (nk k_q_94 n_q_130) fm_q_94
  have fc_q_94 := hGc.fld (nk k_q_94 n_q_130) fc_q_94
  have fx_q_100 := hGc.fld (nk k_q_100 n_q_130) fx_q_100
  have fm_q_100 := hGc.fld (nk k_q_100 n_q_130) fm_q_100
  have fc_q_100 := hGc.fld (nk k_q_100 n_q_130) fc_q_100
  have k_q_1 := hGc.1 _ _ k_q_1
  have k_q_7 := hGc.1 _ _ k_q_7
  have k_q_13 := hGc.1 _ _ k_q_13
  have k_q_24 := hGc.1 _ _ k_q_24
  have k_q_31 := hGc.1 _ _ k_q_31
  have k_q_38 := hGc.1 _ _ k_q_38
  have k_q_45 := hGc.1 _ _ k_q_45
  have k_q_52 := hGc.1 _ _ k_q_52
  have k_q_59 := hGc.1 _ _ k_q_59
  have k_q_68 := hGc.1 _ _ k_q_68
  have k_q_66 := hGc.1 _ _ k_q_66
  have k_q_82 := hGc.1 _ _ k_q_82
  have k_q_88 := hGc.1 _ _ k_q_88
  have k_q_94 := hGc.1 _ _ k_q_94
  have k_q_100 := hGc.1 _ _ k_q_100
  have k_q_106 := hGc.1 _ _ k_q_106
  have k_q_112 := hGc.1 _ _ k_q_112
  have k_q_118 := hGc.1 _ _ k_q_118
  have k_q_124 := hGc.1 _ _ k_q_124
  have n_a0 := (hGc.2 _ _ ne_a0_q_130 c_a0).2 n_a0
  have c_a0 := (hGc.2 _ _ ne_a0_q_130 c_a0).1
  have n_q_19 := (hGc.2 _ _ ne_q_19_q_130 c_q_19).2 n_q_19
  have c_q_19 := (hGc.2 _ _ ne_q_19_q_130 c_q_19).1
  have n_q_77 := (hGc.2 _ _ ne_q_77_q_130 c_q_77).2 n_q_77
  have c_q_77 := (hGc.2 _ _ ne_q_77_q_130 c_q_77).1
  have t_q_19 := t_q_19.elim (fun _ h => hTs1 _ _ h)
  have hF_q_19 := hF_q_19.ext hGc.1
  have t_q_77 := t_q_77.elim (fun _ h => hTs1 _ _ h)
  have hF_q_77 := hF_q_77.ext hGc.1
  have k_q_130 := kn_q_130
  clear kn_q_130 c_q_130 n_q_130
  refine t_putUF (ci := 11) (v := .ref q_130) (C := RX11) (T := TX11) (N := 12) hx hb hts iX11 tyX11 tyX11_ok nmX11 hown hw c_a0 n_a0 rfl 11 (by decide) (hts _ tw_434) (fun _ h9 => h9) rfl hin rfl (tyX11_ok 11 (by decide)) rfl rfl (Nat.le_of_ble_eq_true rfl) dX11_init_192 (fun w_135 H locs hw hk c_a0 => ?_)
  have c_a0 : cAt w_135 a0 (.inr (11, [.ref q_1, .ref q_7, .ref q_13, .ref q_19, .int 0, .ref q_66, .ref q_77, .ref q_106, .ref q_112, .ref q_118, .ref q_124, .ref q_130])) := c_a0
  have hG := hG.set hk (Or.inl rfl)
  have c_q_19 := hk _ _ (Ne.symm ne_a0_q_19) c_q_19
  have c_q_77 := hk _ _ (Ne.symm ne_a0_q_77) c_q_77
  have fx_q_66 := fld_hk hk (nk k_q_66 n_a0) fx_q_66
  have fm_q_66 := fld_hk hk (nk k_q_66 n_a0) fm_q_66
  have fc_q_66 := fld_hk hk (nk k_q_66 n_a0) fc_q_66
  have fx_q_82 := fld_hk hk (nk k_q_82 n_a0) fx_q_82
  have fm_q_82 := fld_hk hk (nk k_q_82 n_a0) fm_q_82
  have fc_q_82 := fld_hk hk (nk k_q_82 n_a0) fc_q_82
  have fx_q_88 := fld_hk hk (nk k_q_88 n_a0) fx_q_88
  have fm_q_88 := fld_hk hk (nk k_q_88 n_a0) fm_q_88
  have fc_q_88 := fld_hk hk (nk k_q_88 n_a0) fc_q_88
  have fx_q_94 := fld_hk hk (nk k_q_94 n_a0) fx_q_94
  have fm_q_94 := fld_hk hk (nk k_q_94 n_a0) fm_q_94
  have fc_q_94 := fld_hk hk (nk k_q_94 n_a0) fc_q_94
  have fx_q_100 := fld_hk hk (nk k_q_100 n_a0) fx_q_100
  have fm_q_100 := fld_hk hk (nk k_q_100 n_a0) fm_q_100
  have fc_q_100 := fld_hk hk (nk k_q_100 n_a0) fc_q_100
  obtain ⟨t0_q_19, ht0_q_19⟩ := t_q_19
  have hok : okE (kap κ_133 [(q_19, 52)]) y_134 B 52 (.inl (k_20, 6, .inr (.inr (.inr (.inr f_65))))) := Or.inr (Or.inr (Or.inr (Or.inl ⟨rfl, k_20, t0_q_19, f_65, ht0_q_19, rfl, hF_q_19.ext (typeE (a := q_19) (k := 52) n_q_19)⟩)))
  have hTy := typeO (k := 52) hw.2.2.2.2 n_q_19 c_q_19 hok
  clear hok
  have hw : tW (dC, dI) y_134 (kap κ_133 [(q_19, 52)]) B A s w_135 H locs := ⟨hw.1, hw.2.1, hw.2.2.1, hw.2.2.2.1, hTy⟩
  clear hTy
  have hG := hG.typz (k := 52) n_q_19 z_q_19
  have k_q_1 := typeE (a := q_19) (k := 52) n_q_19 _ _ k_q_1
  have k_q_7 := typeE (a := q_19) (k := 52) n_q_19 _ _ k_q_7
  have k_q_13 := typeE (a := q_19) (k := 52) n_q_19 _ _ k_q_13
  have k_q_24 := typeE (a := q_19) (k := 52) n_q_19 _ _ k_q_24
  have k_q_31 := typeE (a := q_19) (k := 52) n_q_19 _ _ k_q_31
  have k_q_38 := typeE (a := q_19) (k := 52) n_q_19 _ _ k_q_38
  have k_q_45 := typeE (a := q_19) (k := 52) n_q_19 _ _ k_q_45
  have k_q_52 := typeE (a := q_19) (k := 52) n_q_19 _ _ k_q_52
  have k_q_59 := typeE (a := q_19) (k := 52) n_q_19 _ _ k_q_59
  have k_q_68 := typeE (a := q_19) (k := 52) n_q_19 _ _ k_q_68
  have k_q_66 := typeE (a := q_19) (k := 52) n_q_19 _ _ k_q_66
  have k_q_82 := typeE (a := q_19) (k := 52) n_q_19 _ _ k_q_82
  have k_q_88 := typeE (a := q_19) (k := 52) n_q_19 _ _ k_q_88
  have k_q_94 := typeE (a := q_19) (k := 52) n_q_19 _ _ k_q_94
  have k_q_100 := typeE (a := q_19) (k := 52) n_q_19 _ _ k_q_100
  have k_q_106 := typeE (a := q_19) (k := 52) n_q_19 _ _ k_q_106
  have k_q_112 := typeE (a := q_19) (k := 52) n_q_19 _ _ k_q_112
  have k_q_118 := typeE (a := q_19) (k := 52) n_q_19 _ _ k_q_118
  have k_q_124 := typeE (a := q_19) (k := 52) n_q_19 _ _ k_q_124
  have k_q_130 := typeE (a := q_19) (k := 52) n_q_19 _ _ k_q_130
  have n_a0 := typeN (a := q_19) (k := 52) n_a0 ne_a0_q_19
  have hF_q_77 := hF_q_77.ext (typeE (a := q_19) (k := 52) n_q_19)
  have n_q_77 := typeN (a := q_19) (k := 52) n_q_77 (Ne.symm ne_q_19_q_77)
  have k_q_19 : (kap κ_133 [(q_19, 52)]) q_19 = some 52 := typeK
  clear n_q_19
  generalize (kap κ_133 [(q_19, 52)]) = κ_136 at hw hG k_q_1 k_q_7 k_q_13 k_q_24 k_q_31 k_q_38 k_q_45 k_q_52 k_q_59 k_q_68 k_q_66 k_q_82 k_q_88 k_q_94 k_q_100 k_q_106 k_q_112 k_q_118 k_q_124 k_q_130 k_q_19 n_a0 n_q_77 hF_q_77
  obtain ⟨t0_q_77, ht0_q_77⟩ := t_q_77
  have hok : okE (kap κ_136 [(q_77, 53)]) y_134 B 53 (.inl (k_78, 4, .inr (.inr (.inr (.inr (va_up (va_up (va_up (va_up (fun _ => none) 0 (some q_82)) 1 (some q_88)) 2 (some q_94)) 3 (some q_100))))))) := Or.inr (Or.inr (Or.inr (Or.inl ⟨rfl, k_78, t0_q_77, (va_up (va_up (va_up (va_up (fun _ => none) 0 (some q_82)) 1 (some q_88)) 2 (some q_94)) 3 (some q_100)), ht0_q_77, rfl, hF_q_77.ext (typeE (a := q_77) (k := 53) n_q_77)⟩)))
  have hTy := typeO (k := 53) hw.2.2.2.2 n_q_77 c_q_77 hok
  clear hok
  have hw : tW (dC, dI) y_134 (kap κ_136 [(q_77, 53)]) B A s w_135 H locs := ⟨hw.1, hw.2.1, hw.2.2.1, hw.2.2.2.1, hTy⟩
  clear hTy
  have hG := hG.typz (k := 53) n_q_77 z_q_77
  have k_q_1 := typeE (a := q_77) (k := 53) n_q_77 _ _ k_q_1
  have k_q_7 := typeE (a := q_77) (k := 53) n_q_77 _ _ k_q_7
  have k_q_13 := typeE (a := q_77) (k := 53) n_q_77 _ _ k_q_13
  have k_q_24 := typeE (a := q_77) (k := 53) n_q_77 _ _ k_q_24
  have k_q_31 := typeE (a := q_77) (k := 53) n_q_77 _ _ k_q_31
  have k_q_38 := typeE (a := q_77) (k := 53) n_q_77 _ _ k_q_38
  have k_q_45 := typeE (a := q_77) (k := 53) n_q_77 _ _ k_q_45
  have k_q_52 := typeE (a := q_77) (k := 53) n_q_77 _ _ k_q_52
  have k_q_59 := typeE (a := q_77) (k := 53) n_q_77 _ _ k_q_59
  have k_q_68 := typeE (a := q_77) (k := 53) n_q_77 _ _ k_q_68
  have k_q_66 := typeE (a := q_77) (k := 53) n_q_77 _ _ k_q_66
  have k_q_82 := typeE (a := q_77) (k := 53) n_q_77 _ _ k_q_82
  have k_q_88 := typeE (a := q_77) (k := 53) n_q_77 _ _ k_q_88
  have k_q_94 := typeE (a := q_77) (k := 53) n_q_77 _ _ k_q_94
  have k_q_100 := typeE (a := q_77) (k := 53) n_q_77 _ _ k_q_100
  have k_q_106 := typeE (a := q_77) (k := 53) n_q_77 _ _ k_q_106
  have k_q_112 := typeE (a := q_77) (k := 53) n_q_77 _ _ k_q_112
  have k_q_118 := typeE (a := q_77) (k := 53) n_q_77 _ _ k_q_118
  have k_q_124 := typeE (a := q_77) (k := 53) n_q_77 _ _ k_q_124
  have k_q_130 := typeE (a := q_77) (k := 53) n_q_77 _ _ k_q_130
  have k_q_19 := typeE (a := q_77) (k := 53) n_q_77 _ _ k_q_19
  have n_a0 := typeN (a := q_77) (k := 53) n_a0 ne_a0_q_77
  have k_q_77 : (kap κ_136 [(q_77, 53)]) q_77 = some 53 := typeK
  clear n_q_77
  generalize (kap κ_136 [(q_77, 53)]) = κ_137 at hw hG k_q_1 k_q_7 k_q_13 k_q_24 k_q_31 k_q_38 k_q_45 k_q_52 k_q_59 k_q_68 k_q_66 k_q_82 k_q_88 k_q_94 k_q_100 k_q_106 k_q_112 k_q_118 k_q_124 k_q_130 k_q_19 k_q_77 n_a0
  have hok : okE (kap κ_137 [(a0, 11)]) y_134 B 11 (.inr (11, [.ref q_1, .ref q_7, .ref q_13, .ref q_19, .int 0, .ref q_66, .ref q_77, .ref q_106, .ref q_112, .ref q_118, .ref q_124, .ref q_130])) := by
    refine Or.inl ⟨rfl, _, rfl, rfl, fun j y hy => ?_⟩
    match j, hy with
    | 0, hy => cases hy; exact okV.ref (k := 9) rfl (typeE n_a0 _ _ k_q_1)
    | 1, hy => cases hy; exact okV.ref (k := 1) rfl (typeE n_a0 _ _ k_q_7)
    | 2, hy => cases hy; exact okV.ref (k := 7) rfl (typeE n_a0 _ _ k_q_13)
    | 3, hy => cases hy; exact okV.ref (k := 52) rfl (typeE n_a0 _ _ k_q_19)
    | 4, hy => cases hy; exact okV.int rfl (by decide) (by decide)
    | 5, hy => cases hy; exact okV.ref (k := 10) rfl (typeE n_a0 _ _ k_q_66)
    | 6, hy => cases hy; exact okV.ref (k := 53) rfl (typeE n_a0 _ _ k_q_77)
    | 7, hy => cases hy; exact okV.ref (k := 4) rfl (typeE n_a0 _ _ k_q_106)
    | 8, hy => cases hy; exact okV.ref (k := 5) rfl (typeE n_a0 _ _ k_q_112)
    | 9, hy => cases hy; exact okV.ref (k := 3) rfl (typeE n_a0 _ _ k_q_118)
    | 10, hy => cases hy; exact okV.ref (k := 2) rfl (typeE n_a0 _ _ k_q_124)
    | 11, hy => cases hy; exact okV.ref (k := 8) rfl (typeE n_a0 _ _ k_q_130)
    | j + 12, hy => simp at hy
  have hTy := typeO (k := 11) hw.2.2.2.2 n_a0 c_a0 hok
  clear hok
  have hw : tW (dC, dI) y_134 (kap κ_137 [(a0, 11)]) B A s w_135 H locs := ⟨hw.1, hw.2.1, hw.2.2.1, hw.2.2.2.1, hTy⟩
  clear hTy
  have hG := hG.typ (k := 11) n_a0
  have k_q_1 := typeE (a := a0) (k := 11) n_a0 _ _ k_q_1
  have k_q_7 := typeE (a := a0) (k := 11) n_a0 _ _ k_q_7
  have k_q_13 := typeE (a := a0) (k := 11) n_a0 _ _ k_q_13
  have k_q_24 := typeE (a := a0) (k := 11) n_a0 _ _ k_q_24
  have k_q_31 := typeE (a := a0) (k := 11) n_a0 _ _ k_q_31
  have k_q_38 := typeE (a := a0) (k := 11) n_a0 _ _ k_q_38
  have k_q_45 := typeE (a := a0) (k := 11) n_a0 _ _ k_q_45
  have k_q_52 := typeE (a := a0) (k := 11) n_a0 _ _ k_q_52
  have k_q_59 := typeE (a := a0) (k := 11) n_a0 _ _ k_q_59
  have k_q_68 := typeE (a := a0) (k := 11) n_a0 _ _ k_q_68
  have k_q_66 := typeE (a := a0) (k := 11) n_a0 _ _ k_q_66
  have k_q_82 := typeE (a := a0) (k := 11) n_a0 _ _ k_q_82
  have k_q_88 := typeE (a := a0) (k := 11) n_a0 _ _ k_q_88
  have k_q_94 := typeE (a := a0) (k := 11) n_a0 _ _ k_q_94
  have k_q_100 := typeE (a := a0) (k := 11) n_a0 _ _ k_q_100
  have k_q_106 := typeE (a := a0) (k := 11) n_a0 _ _ k_q_106
  have k_q_112 := typeE (a := a0) (k := 11) n_a0 _ _ k_q_112
  have k_q_118 := typeE (a := a0) (k := 11) n_a0 _ _ k_q_118
  have k_q_124 := typeE (a := a0) (k := 11) n_a0 _ _ k_q_124
  have k_q_130 := typeE (a := a0) (k := 11) n_a0 _ _ k_q_130
  have k_q_19 := typeE (a := a0) (k := 11) n_a0 _ _ k_q_19
  have k_q_77 := typeE (a := a0) (k := 11) n_a0 _ _ k_q_77
  have k_a0 : (kap κ_137 [(a0, 11)]) a0 = some 11 := typeK
  clear n_a0
  generalize (kap κ_137 [(a0, 11)]) = κ_138 at hw hG k_q_1 k_q_7 k_q_13 k_q_24 k_q_31 k_q_38 k_q_45 k_q_52 k_q_59 k_q_68 k_q_66 k_q_82 k_q_88 k_q_94 k_q_100 k_q_106 k_q_112 k_q_118 k_q_124 k_q_130 k_q_19 k_q_77 k_a0
  have hBX : BXS κ_138 w_135 a0 0 (fun _ => 0) (fun _ => False) := by
    refine ⟨q_66, q_77, (va_up (va_up (va_up (va_up (fun _ => none) 0 (some q_82)) 1 (some q_88)) 2 (some q_94)) 3 (some q_100)), c_a0.fld (k := 5) rfl, k_q_66, fx_q_66, c_a0.fld (k := 6) rfl, k_q_77, refs_of c_q_77, fun j hj => ?_, inj4 (a := q_82) (b := q_88) (c := q_94) (d := q_100) rfl rfl rfl rfl ne_q_82_q_88 ne_q_82_q_94 ne_q_82_q_100 ne_q_88_q_94 ne_q_88_q_100 ne_q_94_q_100⟩
    match j, hj with
    | 0, _ => exact ⟨q_82, 0, rfl, k_q_82, (Ne.symm ne_q_66_q_82), fm_q_82, ⟨fun z => z.elim, fun z => absurd (by decide) z⟩, fun z => z.elim⟩
    | 1, _ => exact ⟨q_88, 0, rfl, k_q_88, (Ne.symm ne_q_66_q_88), fm_q_88, ⟨fun z => z.elim, fun z => absurd (by decide) z⟩, fun z => z.elim⟩
    | 2, _ => exact ⟨q_94, 0, rfl, k_q_94, (Ne.symm ne_q_66_q_94), fm_q_94, ⟨fun z => z.elim, fun z => absurd (by decide) z⟩, fun z => z.elim⟩
    | 3, _ => exact ⟨q_100, 0, rfl, k_q_100, (Ne.symm ne_q_66_q_100), fm_q_100, ⟨fun z => z.elim, fun z => absurd (by decide) z⟩, fun z => z.elim⟩
    | j + 4, hj => exact absurd hj (by omega)
  refine W.widen (k := 280) (n := 5581) (Nat.le_of_ble_eq_true rfl) (Nat.le_of_ble_eq_true rfl) ?_
  exact W.vret hx hb hr (fun t ht hW => ⟨⟨(w_135, κ_138, y_134), rfl, ⟨hw.2.2.2.2, hTs, hG, k_a0, hBX⟩, by rw [ht]; exact hw.2.1, va_K.moved hW.alike hw.1, hw.2.2.1⟩, hw.2.2.2.1.F ht⟩) hw.2.2.2.1.2.2 dX11_init_195
set_option maxHeartbeats 4000000 in
set_option maxRecDepth 100000 in
theorem k_X12_init (l : Launch) (dC : Nat → ClassId) (dI : Nat → Nat → Nat) (tys : List (ClassId × FieldType)) (κ : tK) (B : Nat) (ws : va_W) (hT : Ty κ tys B ws) (a0 : Nat) (n_a0 : κ a0 = none) (c_a0 : cAt ws a0 (.inr (12, [.null, .int 0, .int 0, .null, .null, .null, .null, .null, .int 0, .int 0, .int 0, .int 0, .int 0, .int 0, .int 0, .null, .int 0, .null, .int 0, .null, .null, .int 0, .int 0, .null, .int 0, .null, .int 0, .null, .null, .null, .null, .null, .null, .long 0, .null, .null, .null, .null]))) (sz : Nat) : Met l yX12_init (ws_u yX12_init cX12_init 1 none) ({ frames := 1, cells := 22, slots := 7170, locals := 28 }) (va_Pc [.ref a0] (cPre (dC, dI) tys ws sz)) (va_Qv (fun (u : va_W × tK × List (ClassId × FieldType)) => Ty u.2.1 u.2.2 B u.1 ∧ SubT tys u.2.2 ∧ Gr κ u.2.1 ws u.1 a0 ∧ u.2.1 a0 = some 12 ∧ MXS u.2.1 u.1 a0 0 (fun _ => 0) (fun _ => False) ∧ RT u.2.1 u.1 a0 ∧ DY u.2.1 u.1 a0) (fun u t => cPost (dC, dI) u.2.2 u.1 (va_A ws sz) t) (va_A ws sz)) 22 7170 (va_A ws sz) := by
  refine Met.ofW (cc := cX12_init) (maxL := 1) (ret := none) (by decide) rfl ?_
  intro p e s m args below meth c s₁ B0 hml hv
  obtain ⟨rfl, hsz, hP, hK, hD0, hE⟩ := hv
  have hx := B0.exec
  have hb := B0.bytes
  have hr := B0.returns
  have hts0 := atoms_spec (ws := ws_u yX12_init cX12_init 1 none) B0.pre
  have hts : ∀ w ∈ gT, w.before _ s = true := fun w h => hts0 w (List.mem_cons_of_mem _ h)
  have hown : s.vm.findClass RX12 = some m.cls := findClass_of_methodNamed B0.named
  have hin : meth.name = "<init>" := (name_of_methodNamed B0.named B0.method).1
  subst hsz
  have hD := hD0.self (sz := s.heap.size)
  generalize hAe : va_A ws s.heap.size = A at hD ⊢
  have hA : ∀ q : Nat, s.heap.size ≤ q → A q := fun q h => by rw [← hAe]; exact Or.inr h
  have hw : tW (dC, dI) tys κ B A s ws s.heap [] := ⟨hK, hP, hD, va_S.rf, hT⟩
  have hG : Gr κ κ ws ws a0 := Gr.rf
  have hTs : SubT tys tys := SubT.rf
  clear hP hK hD hD0 hts0
  have hl := lv_entry ([.ref a0]) (n := 1) (Nat.le_of_ble_eq_true rfl)
  rw [lg_entry_eq]
  generalize (lg_sl ([.ref a0]) ++ List.replicate (1 - (lg_sl ([.ref a0])).length) Slot.unset).toArray = ls at hl ⊢
  have hl : lv_has ls 1 [(0, .ref a0)] := hl
  refine lv_aload_n hx hb dX12_init_0 rfl (lv_at hl 0 rfl) ?_
  refine W.objInit hx hb hown (hts _ tw_1124) (hts _ tw_28) (hts _ tw_29) rfl (by rw [hml]; exact hl.1) rfl dX12_init_1 (Nat.le_of_ble_eq_true rfl) (Nat.le_of_ble_eq_true rfl) ?_
  refine W.eq (g2 := F0 m 4 ls []) rfl ?_
  refine lv_aload_n hx hb dX12_init_4 rfl (lv_at hl 0 rfl) ?_
  refine lv_sipush (v := 400) hx hb dX12_init_5 (by decide) ?_
  refine va_newa (D := (dC, dI)) (a0 := (400, .inl (fun _ => 0))) (N' := 400) (ty := .byte) (atype := .byte) hx hb (hts _ tw_55) rfl hw.1 hw.2.1 hw.2.2.1 hw.2.2.2.1 hA (fun _ => rfl) (by decide) (by decide) (Nat.le_of_ble_eq_true rfl) (Nat.le_of_ble_eq_true rfl) (Nat.le_of_ble_eq_true rfl) dX12_init_8 (fun q_1 k_2 H hK hP hD hS => ?_)
  have hf := fr_new hD
  have ne_a0_q_1 : a0 ≠ q_1 := fun z => hf _ (z ▸ c_a0)
  obtain ⟨κ_3, hTy, hEx, k_q_1, hno⟩ := newA (k := 54) hw.2.2.2.2 hD (SubT.app (t' := [(k_2, .byte)])) (fun _ => Or.inr (Or.inl ⟨rfl, k_2, tys.length, _, at_last, rfl, fun j hj => ⟨(by decide : (-2147483648 : Int) ≤ (0 : Int32).toInt), (by decide : (0 : Int32).toInt ≤ (2147483647 : Int))⟩⟩))
  have hG := hG.newA (w1 := [(q_1, .inl (k_2, 400, .inl (fun _ => 0)))]) hEx hno
  have n_a0 : κ_3 a0 = none := by rw [hno _ _ c_a0]; exact n_a0
  have c_a0 := c_a0.app (w1 := [(q_1, .inl (k_2, 400, .inl (fun _ => 0)))])
  have hTs := hTs.trans (SubT.app (t' := [(k_2, .byte)]))
  have c_q_1 : cAt (ws ++ [(q_1, .inl (k_2, 400, .inl (fun _ => 0)))]) q_1 (.inl (k_2, 400, .inl (fun _ => 0))) := cAt_last
  have hw : tW (dC, dI) (tys ++ [(k_2, .byte)]) κ_3 B A s (ws ++ [(q_1, .inl (k_2, 400, .inl (fun _ => 0)))]) H [] := ⟨hK, hP, hD, hS, hTy⟩
  clear hf hP hD hS hEx hno hTy hK
  generalize (ws ++ [(q_1, .inl (k_2, 400, .inl (fun _ => 0)))]) = w_4 at hw hG c_q_1 c_a0
  generalize (tys ++ [(k_2, .byte)]) = y_5 at hw hTs 
  clear c_q_1
  refine t_putUF (ci := 12) (v := .ref q_1) (C := RX12) (T := TX12) (N := 38) hx hb hts iX12 tyX12 tyX12_ok nmX12 hown hw c_a0 n_a0 rfl 0 (by decide) (hts _ tw_1125) (fun _ h9 => h9) rfl hin rfl (tyX12_ok 0 (by decide)) rfl rfl (Nat.le_of_ble_eq_true rfl) dX12_init_10 (fun w_6 H locs hw hk c_a0 => ?_)
  have c_a0 : cAt w_6 a0 (.inr (12, [.ref q_1, .int 0, .int 0, .null, .null, .null, .null, .null, .int 0, .int 0, .int 0, .int 0, .int 0, .int 0, .int 0, .null, .int 0, .null, .int 0, .null, .null, .int 0, .int 0, .null, .int 0, .null, .int 0, .null, .null, .null, .null, .null, .null, .long 0, .null, .null, .null, .null])) := c_a0
  have hG := hG.set hk (Or.inl rfl)
  refine lv_aload_n hx hb dX12_init_13 rfl (lv_at hl 0 rfl) ?_
  refine lv_sipush (v := 2400) hx hb dX12_init_14 (by decide) ?_
  refine va_newa (D := (dC, dI)) (a0 := (2400, .inl (fun _ => 0))) (N' := 2400) (ty := .int) (atype := .int) hx hb (hts _ tw_154) rfl hw.1 hw.2.1 hw.2.2.1 hw.2.2.2.1 hA (fun _ => rfl) (by decide) (by decide) (Nat.le_of_ble_eq_true rfl) (Nat.le_of_ble_eq_true rfl) (Nat.le_of_ble_eq_true rfl) dX12_init_17 (fun q_7 k_8 H hK hP hD hS => ?_)
  have hf := fr_new hD
  have ne_a0_q_7 : a0 ≠ q_7 := fun z => hf _ (z ▸ c_a0)
  obtain ⟨κ_9, hTy, hEx, k_q_7, hno⟩ := newA (k := 55) hw.2.2.2.2 hD (SubT.app (t' := [(k_8, .int)])) (fun _ => Or.inr (Or.inl ⟨rfl, k_8, y_5.length, _, at_last, rfl, fun j hj => ⟨(by decide : (-2147483648 : Int) ≤ (0 : Int32).toInt), (by decide : (0 : Int32).toInt ≤ (2147483647 : Int))⟩⟩))
  have hG := hG.newA (w1 := [(q_7, .inl (k_8, 2400, .inl (fun _ => 0)))]) hEx hno
  have n_a0 : κ_9 a0 = none := by rw [hno _ _ c_a0]; exact n_a0
  have k_q_1 := hEx _ _ k_q_1
  have c_a0 := c_a0.app (w1 := [(q_7, .inl (k_8, 2400, .inl (fun _ => 0)))])
  have hTs := hTs.trans (SubT.app (t' := [(k_8, .int)]))
  have c_q_7 : cAt (w_6 ++ [(q_7, .inl (k_8, 2400, .inl (fun _ => 0)))]) q_7 (.inl (k_8, 2400, .inl (fun _ => 0))) := cAt_last
  have hw : tW (dC, dI) (y_5 ++ [(k_8, .int)]) κ_9 B A s (w_6 ++ [(q_7, .inl (k_8, 2400, .inl (fun _ => 0)))]) H locs := ⟨hK, hP, hD, hS, hTy⟩
  clear hf hP hD hS hEx hno hTy hK
  generalize (w_6 ++ [(q_7, .inl (k_8, 2400, .inl (fun _ => 0)))]) = w_10 at hw hG c_q_7 c_a0
  generalize (y_5 ++ [(k_8, .int)]) = y_11 at hw hTs 
  refine t_putUF (ci := 12) (v := .ref q_7) (C := RX12) (T := TX12) (N := 38) hx hb hts iX12 tyX12 tyX12_ok nmX12 hown hw c_a0 n_a0 rfl 3 (by decide) (hts _ tw_1128) (fun _ h9 => h9) rfl hin rfl (tyX12_ok 3 (by decide)) rfl rfl (Nat.le_of_ble_eq_true rfl) dX12_init_19 (fun w_12 H locs hw hk c_a0 => ?_)
  have c_a0 : cAt w_12 a0 (.inr (12, [.ref q_1, .int 0, .int 0, .ref q_7, .null, .null, .null, .null, .int 0, .int 0, .int 0, .int 0, .int 0, .int 0, .int 0, .null, .int 0, .null, .int 0, .null, .null, .int 0, .int 0, .null, .int 0, .null, .int 0, .null, .null, .null, .null, .null, .null, .long 0, .null, .null, .null, .null])) := c_a0
  have hG := hG.set hk (Or.inl rfl)
  have c_q_7 := hk _ _ (nk k_q_7 n_a0) c_q_7
  refine lv_aload_n hx hb dX12_init_22 rfl (lv_at hl 0 rfl) ?_
  refine lv_bipush (v := 7) hx hb dX12_init_23 (by decide) ?_
  refine va_newa (D := (dC, dI)) (a0 := (7, .inl (fun _ => 0))) (N' := 7) (ty := .int) (atype := .int) hx hb (hts _ tw_154) rfl hw.1 hw.2.1 hw.2.2.1 hw.2.2.2.1 hA (fun _ => rfl) (by decide) (by decide) (Nat.le_of_ble_eq_true rfl) (Nat.le_of_ble_eq_true rfl) (Nat.le_of_ble_eq_true rfl) dX12_init_25 (fun q_13 k_14 H hK hP hD hS => ?_)
  have hf := fr_new hD
  have ne_a0_q_13 : a0 ≠ q_13 := fun z => hf _ (z ▸ c_a0)
  obtain ⟨κ_15, hTy, hEx, k_q_13, hno⟩ := newA (k := 56) hw.2.2.2.2 hD (SubT.app (t' := [(k_14, .int)])) (fun _ => Or.inr (Or.inl ⟨rfl, k_14, y_11.length, _, at_last, rfl, fun j hj => ⟨(by decide : (0 : Int) ≤ (0 : Int32).toInt), (by decide : (0 : Int32).toInt ≤ (400 : Int))⟩⟩))
  have hG := hG.newA (w1 := [(q_13, .inl (k_14, 7, .inl (fun _ => 0)))]) hEx hno
  have n_a0 : κ_15 a0 = none := by rw [hno _ _ c_a0]; exact n_a0
  have k_q_1 := hEx _ _ k_q_1
  have k_q_7 := hEx _ _ k_q_7
  have c_a0 := c_a0.app (w1 := [(q_13, .inl (k_14, 7, .inl (fun _ => 0)))])
  have c_q_7 := c_q_7.app (w1 := [(q_13, .inl (k_14, 7, .inl (fun _ => 0)))])
  have hTs := hTs.trans (SubT.app (t' := [(k_14, .int)]))
  have c_q_13 : cAt (w_12 ++ [(q_13, .inl (k_14, 7, .inl (fun _ => 0)))]) q_13 (.inl (k_14, 7, .inl (fun _ => 0))) := cAt_last
  have hw : tW (dC, dI) (y_11 ++ [(k_14, .int)]) κ_15 B A s (w_12 ++ [(q_13, .inl (k_14, 7, .inl (fun _ => 0)))]) H locs := ⟨hK, hP, hD, hS, hTy⟩
  clear hf hP hD hS hEx hno hTy hK
  generalize (w_12 ++ [(q_13, .inl (k_14, 7, .inl (fun _ => 0)))]) = w_16 at hw hG c_q_13 c_a0 c_q_7
  generalize (y_11 ++ [(k_14, .int)]) = y_17 at hw hTs 
  refine t_putUF (ci := 12) (v := .ref q_13) (C := RX12) (T := TX12) (N := 38) hx hb hts iX12 tyX12 tyX12_ok nmX12 hown hw c_a0 n_a0 rfl 4 (by decide) (hts _ tw_1129) (fun _ h9 => h9) rfl hin rfl (tyX12_ok 4 (by decide)) rfl rfl (Nat.le_of_ble_eq_true rfl) dX12_init_27 (fun w_18 H locs hw hk c_a0 => ?_)
  have c_a0 : cAt w_18 a0 (.inr (12, [.ref q_1, .int 0, .int 0, .ref q_7, .ref q_13, .null, .null, .null, .int 0, .int 0, .int 0, .int 0, .int 0, .int 0, .int 0, .null, .int 0, .null, .int 0, .null, .null, .int 0, .int 0, .null, .int 0, .null, .int 0, .null, .null, .null, .null, .null, .null, .long 0, .null, .null, .null, .null])) := c_a0
  have hG := hG.set hk (Or.inl rfl)
  have c_q_13 := hk _ _ (nk k_q_13 n_a0) c_q_13
  have c_q_7 := hk _ _ (nk k_q_7 n_a0) c_q_7
  refine lv_aload_n hx hb dX12_init_30 rfl (lv_at hl 0 rfl) ?_
  refine lv_sipush (v := 288) hx hb dX12_init_31 (by decide) ?_
  refine va_newa (D := (dC, dI)) (a0 := (288, .inl (fun _ => 0))) (N' := 288) (ty := .int) (atype := .int) hx hb (hts _ tw_154) rfl hw.1 hw.2.1 hw.2.2.1 hw.2.2.2.1 hA (fun _ => rfl) (by decide) (by decide) (Nat.le_of_ble_eq_true rfl) (Nat.le_of_ble_eq_true rfl) (Nat.le_of_ble_eq_true rfl) dX12_init_34 (fun q_19 k_20 H hK hP hD hS => ?_)
  have hf := fr_new hD
  have ne_a0_q_19 : a0 ≠ q_19 := fun z => hf _ (z ▸ c_a0)
  obtain ⟨κ_21, hTy, hEx, k_q_19, hno⟩ := newA (k := 57) hw.2.2.2.2 hD (SubT.app (t' := [(k_20, .int)])) (fun _ => Or.inr (Or.inl ⟨rfl, k_20, y_17.length, _, at_last, rfl, fun j hj => ⟨(by decide : (-1 : Int) ≤ (0 : Int32).toInt), (by decide : (0 : Int32).toInt ≤ (400 : Int))⟩⟩))
  have hG := hG.newA (w1 := [(q_19, .inl (k_20, 288, .inl (fun _ => 0)))]) hEx hno
  have n_a0 : κ_21 a0 = none := by rw [hno _ _ c_a0]; exact n_a0
  have k_q_1 := hEx _ _ k_q_1
  have k_q_7 := hEx _ _ k_q_7
  have k_q_13 := hEx _ _ k_q_13
  have c_a0 := c_a0.app (w1 := [(q_19, .inl (k_20, 288, .inl (fun _ => 0)))])
  have c_q_13 := c_q_13.app (w1 := [(q_19, .inl (k_20, 288, .inl (fun _ => 0)))])
  have c_q_7 := c_q_7.app (w1 := [(q_19, .inl (k_20, 288, .inl (fun _ => 0)))])
  have hTs := hTs.trans (SubT.app (t' := [(k_20, .int)]))
  have c_q_19 : cAt (w_18 ++ [(q_19, .inl (k_20, 288, .inl (fun _ => 0)))]) q_19 (.inl (k_20, 288, .inl (fun _ => 0))) := cAt_last
  have hw : tW (dC, dI) (y_17 ++ [(k_20, .int)]) κ_21 B A s (w_18 ++ [(q_19, .inl (k_20, 288, .inl (fun _ => 0)))]) H locs := ⟨hK, hP, hD, hS, hTy⟩
  clear hf hP hD hS hEx hno hTy hK
  generalize (w_18 ++ [(q_19, .inl (k_20, 288, .inl (fun _ => 0)))]) = w_22 at hw hG c_q_19 c_a0 c_q_13 c_q_7
  generalize (y_17 ++ [(k_20, .int)]) = y_23 at hw hTs 
  refine t_putUF (ci := 12) (v := .ref q_19) (C := RX12) (T := TX12) (N := 38) hx hb hts iX12 tyX12 tyX12_ok nmX12 hown hw c_a0 n_a0 rfl 5 (by decide) (hts _ tw_1130) (fun _ h9 => h9) rfl hin rfl (tyX12_ok 5 (by decide)) rfl rfl (Nat.le_of_ble_eq_true rfl) dX12_init_36 (fun w_24 H locs hw hk c_a0 => ?_)
  have c_a0 : cAt w_24 a0 (.inr (12, [.ref q_1, .int 0, .int 0, .ref q_7, .ref q_13, .ref q_19, .null, .null, .int 0, .int 0, .int 0, .int 0, .int 0, .int 0, .int 0, .null, .int 0, .null, .int 0, .null, .null, .int 0, .int 0, .null, .int 0, .null, .int 0, .null, .null, .null, .null, .null, .null, .long 0, .null, .null, .null, .null])) := c_a0
  have hG := hG.set hk (Or.inl rfl)
  have c_q_13 := hk _ _ (nk k_q_13 n_a0) c_q_13
  have c_q_19 := hk _ _ (nk k_q_19 n_a0) c_q_19
  have c_q_7 := hk _ _ (nk k_q_7 n_a0) c_q_7
  refine lv_aload_n hx hb dX12_init_39 rfl (lv_at hl 0 rfl) ?_
  refine lv_bipush (v := 6) hx hb dX12_init_40 (by decide) ?_
  refine va_newa (D := (dC, dI)) (a0 := (6, .inl (fun _ => 0))) (N' := 6) (ty := .int) (atype := .int) hx hb (hts _ tw_154) rfl hw.1 hw.2.1 hw.2.2.1 hw.2.2.2.1 hA (fun _ => rfl) (by decide) (by decide) (Nat.le_of_ble_eq_true rfl) (Nat.le_of_ble_eq_true rfl) (Nat.le_of_ble_eq_true rfl) dX12_init_42 (fun q_25 k_26 H hK hP hD hS => ?_)
  have hf := fr_new hD
  have ne_a0_q_25 : a0 ≠ q_25 := fun z => hf _ (z ▸ c_a0)
  obtain ⟨κ_27, hTy, hEx, k_q_25, hno⟩ := newA (k := 58) hw.2.2.2.2 hD (SubT.app (t' := [(k_26, .int)])) (fun _ => Or.inr (Or.inl ⟨rfl, k_26, y_23.length, _, at_last, rfl, fun j hj => ⟨(by decide : (0 : Int) ≤ (0 : Int32).toInt), (by decide : (0 : Int32).toInt ≤ (12 : Int))⟩⟩))
  have hG := hG.newA (w1 := [(q_25, .inl (k_26, 6, .inl (fun _ => 0)))]) hEx hno
  have n_a0 : κ_27 a0 = none := by rw [hno _ _ c_a0]; exact n_a0
  have k_q_1 := hEx _ _ k_q_1
  have k_q_7 := hEx _ _ k_q_7
  have k_q_13 := hEx _ _ k_q_13
  have k_q_19 := hEx _ _ k_q_19
  have c_a0 := c_a0.app (w1 := [(q_25, .inl (k_26, 6, .inl (fun _ => 0)))])
  have c_q_13 := c_q_13.app (w1 := [(q_25, .inl (k_26, 6, .inl (fun _ => 0)))])
  have c_q_19 := c_q_19.app (w1 := [(q_25, .inl (k_26, 6, .inl (fun _ => 0)))])
  have c_q_7 := c_q_7.app (w1 := [(q_25, .inl (k_26, 6, .inl (fun _ => 0)))])
  have hTs := hTs.trans (SubT.app (t' := [(k_26, .int)]))
  have c_q_25 : cAt (w_24 ++ [(q_25, .inl (k_26, 6, .inl (fun _ => 0)))]) q_25 (.inl (k_26, 6, .inl (fun _ => 0))) := cAt_last
  have hw : tW (dC, dI) (y_23 ++ [(k_26, .int)]) κ_27 B A s (w_24 ++ [(q_25, .inl (k_26, 6, .inl (fun _ => 0)))]) H locs := ⟨hK, hP, hD, hS, hTy⟩
  clear hf hP hD hS hEx hno hTy hK
  generalize (w_24 ++ [(q_25, .inl (k_26, 6, .inl (fun _ => 0)))]) = w_28 at hw hG c_q_25 c_a0 c_q_13 c_q_19 c_q_7
  generalize (y_23 ++ [(k_26, .int)]) = y_29 at hw hTs 
  refine t_putUF (ci := 12) (v := .ref q_25) (C := RX12) (T := TX12) (N := 38) hx hb hts iX12 tyX12 tyX12_ok nmX12 hown hw c_a0 n_a0 rfl 6 (by decide) (hts _ tw_1131) (fun _ h9 => h9) rfl hin rfl (tyX12_ok 6 (by decide)) rfl rfl (Nat.le_of_ble_eq_true rfl) dX12_init_44 (fun w_30 H locs hw hk c_a0 => ?_)
  have c_a0 : cAt w_30 a0 (.inr (12, [.ref q_1, .int 0, .int 0, .ref q_7, .ref q_13, .ref q_19, .ref q_25, .null, .int 0, .int 0, .int 0, .int 0, .int 0, .int 0, .int 0, .null, .int 0, .null, .int 0, .null, .null, .int 0, .int 0, .null, .int 0, .null, .int 0, .null, .null, .null, .null, .null, .null, .long 0, .null, .null, .null, .null])) := c_a0
  have hG := hG.set hk (Or.inl rfl)
  have c_q_13 := hk _ _ (nk k_q_13 n_a0) c_q_13
  have c_q_19 := hk _ _ (nk k_q_19 n_a0) c_q_19
  have c_q_25 := hk _ _ (nk k_q_25 n_a0) c_q_25
  have c_q_7 := hk _ _ (nk k_q_7 n_a0) c_q_7
  refine lv_aload_n hx hb dX12_init_47 rfl (lv_at hl 0 rfl) ?_
  refine lv_sipush (v := 285) hx hb dX12_init_48 (by decide) ?_
  refine va_newa (D := (dC, dI)) (a0 := (285, .inl (fun _ => 0))) (N' := 285) (ty := .int) (atype := .int) hx hb (hts _ tw_154) rfl hw.1 hw.2.1 hw.2.2.1 hw.2.2.2.1 hA (fun _ => rfl) (by decide) (by decide) (Nat.le_of_ble_eq_true rfl) (Nat.le_of_ble_eq_true rfl) (Nat.le_of_ble_eq_true rfl) dX12_init_51 (fun q_31 k_32 H hK hP hD hS => ?_)
  have hf := fr_new hD
  have ne_a0_q_31 : a0 ≠ q_31 := fun z => hf _ (z ▸ c_a0)
  obtain ⟨κ_33, hTy, hEx, k_q_31, hno⟩ := newA (k := 59) hw.2.2.2.2 hD (SubT.app (t' := [(k_32, .int)])) (fun _ => Or.inr (Or.inl ⟨rfl, k_32, y_29.length, _, at_last, rfl, fun j hj => by rw [aiv_read]; exact ivR_z _⟩))
  have hG := hG.newA (w1 := [(q_31, .inl (k_32, 285, .inl (fun _ => 0)))]) hEx hno
  have n_a0 : κ_33 a0 = none := by rw [hno _ _ c_a0]; exact n_a0
  have k_q_1 := hEx _ _ k_q_1
  have k_q_7 := hEx _ _ k_q_7
  have k_q_13 := hEx _ _ k_q_13
  have k_q_19 := hEx _ _ k_q_19
  have k_q_25 := hEx _ _ k_q_25
  have c_a0 := c_a0.app (w1 := [(q_31, .inl (k_32, 285, .inl (fun _ => 0)))])
  have c_q_13 := c_q_13.app (w1 := [(q_31, .inl (k_32, 285, .inl (fun _ => 0)))])
  have c_q_19 := c_q_19.app (w1 := [(q_31, .inl (k_32, 285, .inl (fun _ => 0)))])
  have c_q_25 := c_q_25.app (w1 := [(q_31, .inl (k_32, 285, .inl (fun _ => 0)))])
  have c_q_7 := c_q_7.app (w1 := [(q_31, .inl (k_32, 285, .inl (fun _ => 0)))])
  have hTs := hTs.trans (SubT.app (t' := [(k_32, .int)]))
  have c_q_31 : cAt (w_30 ++ [(q_31, .inl (k_32, 285, .inl (fun _ => 0)))]) q_31 (.inl (k_32, 285, .inl (fun _ => 0))) := cAt_last
  have hw : tW (dC, dI) (y_29 ++ [(k_32, .int)]) κ_33 B A s (w_30 ++ [(q_31, .inl (k_32, 285, .inl (fun _ => 0)))]) H locs := ⟨hK, hP, hD, hS, hTy⟩
  clear hf hP hD hS hEx hno hTy hK
  generalize (w_30 ++ [(q_31, .inl (k_32, 285, .inl (fun _ => 0)))]) = w_34 at hw hG c_q_31 c_a0 c_q_13 c_q_19 c_q_25 c_q_7
  generalize (y_29 ++ [(k_32, .int)]) = y_35 at hw hTs 
  clear c_q_31
  refine t_putUF (ci := 12) (v := .ref q_31) (C := RX12) (T := TX12) (N := 38) hx hb hts iX12 tyX12 tyX12_ok nmX12 hown hw c_a0 n_a0 rfl 7 (by decide) (hts _ tw_1132) (fun _ h9 => h9) rfl hin rfl (tyX12_ok 7 (by decide)) rfl rfl (Nat.le_of_ble_eq_true rfl) dX12_init_53 (fun w_36 H locs hw hk c_a0 => ?_)
  have c_a0 : cAt w_36 a0 (.inr (12, [.ref q_1, .int 0, .int 0, .ref q_7, .ref q_13, .ref q_19, .ref q_25, .ref q_31, .int 0, .int 0, .int 0, .int 0, .int 0, .int 0, .int 0, .null, .int 0, .null, .int 0, .null, .null, .int 0, .int 0, .null, .int 0, .null, .int 0, .null, .null, .null, .null, .null, .null, .long 0, .null, .null, .null, .null])) := c_a0
  have hG := hG.set hk (Or.inl rfl)
  have c_q_13 := hk _ _ (nk k_q_13 n_a0) c_q_13
  have c_q_19 := hk _ _ (nk k_q_19 n_a0) c_q_19
  have c_q_25 := hk _ _ (nk k_q_25 n_a0) c_q_25
  have c_q_7 := hk _ _ (nk k_q_7 n_a0) c_q_7
  refine lv_aload_n hx hb dX12_init_56 rfl (lv_at hl 0 rfl) ?_
  refine lv_sipush (v := 400) hx hb dX12_init_57 (by decide) ?_
  refine va_newa (D := (dC, dI)) (a0 := (400, .inl (fun _ => 0))) (N' := 400) (ty := .int) (atype := .int) hx hb (hts _ tw_154) rfl hw.1 hw.2.1 hw.2.2.1 hw.2.2.2.1 hA (fun _ => rfl) (by decide) (by decide) (Nat.le_of_ble_eq_true rfl) (Nat.le_of_ble_eq_true rfl) (Nat.le_of_ble_eq_true rfl) dX12_init_60 (fun q_37 k_38 H hK hP hD hS => ?_)
  have hf := fr_new hD
  have ne_a0_q_37 : a0 ≠ q_37 := fun z => hf _ (z ▸ c_a0)
  obtain ⟨κ_39, hTy, hEx, k_q_37, hno⟩ := newA (k := 60) hw.2.2.2.2 hD (SubT.app (t' := [(k_38, .int)])) (fun _ => Or.inr (Or.inl ⟨rfl, k_38, y_35.length, _, at_last, rfl, fun j hj => ⟨(by decide : (-2147483648 : Int) ≤ (0 : Int32).toInt), (by decide : (0 : Int32).toInt ≤ (2147483647 : Int))⟩⟩))
  have hG := hG.newA (w1 := [(q_37, .inl (k_38, 400, .inl (fun _ => 0)))]) hEx hno
  have n_a0 : κ_39 a0 = none := by rw [hno _ _ c_a0]; exact n_a0
  have k_q_1 := hEx _ _ k_q_1
  have k_q_7 := hEx _ _ k_q_7
  have k_q_13 := hEx _ _ k_q_13
  have k_q_19 := hEx _ _ k_q_19
  have k_q_25 := hEx _ _ k_q_25
  have k_q_31 := hEx _ _ k_q_31
  have c_a0 := c_a0.app (w1 := [(q_37, .inl (k_38, 400, .inl (fun _ => 0)))])
  have c_q_13 := c_q_13.app (w1 := [(q_37, .inl (k_38, 400, .inl (fun _ => 0)))])
  have c_q_19 := c_q_19.app (w1 := [(q_37, .inl (k_38, 400, .inl (fun _ => 0)))])
  have c_q_25 := c_q_25.app (w1 := [(q_37, .inl (k_38, 400, .inl (fun _ => 0)))])
  have c_q_7 := c_q_7.app (w1 := [(q_37, .inl (k_38, 400, .inl (fun _ => 0)))])
  have hTs := hTs.trans (SubT.app (t' := [(k_38, .int)]))
  have c_q_37 : cAt (w_36 ++ [(q_37, .inl (k_38, 400, .inl (fun _ => 0)))]) q_37 (.inl (k_38, 400, .inl (fun _ => 0))) := cAt_last
  have hw : tW (dC, dI) (y_35 ++ [(k_38, .int)]) κ_39 B A s (w_36 ++ [(q_37, .inl (k_38, 400, .inl (fun _ => 0)))]) H locs := ⟨hK, hP, hD, hS, hTy⟩
  clear hf hP hD hS hEx hno hTy hK
  generalize (w_36 ++ [(q_37, .inl (k_38, 400, .inl (fun _ => 0)))]) = w_40 at hw hG c_q_37 c_a0 c_q_13 c_q_19 c_q_25 c_q_7
  generalize (y_35 ++ [(k_38, .int)]) = y_41 at hw hTs 
  clear c_q_37
  refine t_putUF (ci := 12) (v := .ref q_37) (C := RX12) (T := TX12) (N := 38) hx hb hts iX12 tyX12 tyX12_ok nmX12 hown hw c_a0 n_a0 rfl 15 (by decide) (hts _ tw_1140) (fun _ h9 => h9) rfl hin rfl (tyX12_ok 15 (by decide)) rfl rfl (Nat.le_of_ble_eq_true rfl) dX12_init_62 (fun w_42 H locs hw hk c_a0 => ?_)
  have c_a0 : cAt w_42 a0 (.inr (12, [.ref q_1, .int 0, .int 0, .ref q_7, .ref q_13, .ref q_19, .ref q_25, .ref q_31, .int 0, .int 0, .int 0, .int 0, .int 0, .int 0, .int 0, .ref q_37, .int 0, .null, .int 0, .null, .null, .int 0, .int 0, .null, .int 0, .null, .int 0, .null, .null, .null, .null, .null, .null, .long 0, .null, .null, .null, .null])) := c_a0
  have hG := hG.set hk (Or.inl rfl)
  have c_q_13 := hk _ _ (nk k_q_13 n_a0) c_q_13
  have c_q_19 := hk _ _ (nk k_q_19 n_a0) c_q_19
  have c_q_25 := hk _ _ (nk k_q_25 n_a0) c_q_25
  have c_q_7 := hk _ _ (nk k_q_7 n_a0) c_q_7
  refine lv_aload_n hx hb dX12_init_65 rfl (lv_at hl 0 rfl) ?_
  refine lv_bipush (v := 64) hx hb dX12_init_66 (by decide) ?_
  refine va_newa (D := (dC, dI)) (a0 := (64, .inr (.inl (fun _ => 0)))) (N' := 64) (ty := .long) (atype := .long) hx hb (hts _ tw_205) rfl hw.1 hw.2.1 hw.2.2.1 hw.2.2.2.1 hA (fun _ => rfl) (by decide) (by decide) (Nat.le_of_ble_eq_true rfl) (Nat.le_of_ble_eq_true rfl) (Nat.le_of_ble_eq_true rfl) dX12_init_68 (fun q_43 k_44 H hK hP hD hS => ?_)
  have hf := fr_new hD
  have ne_a0_q_43 : a0 ≠ q_43 := fun z => hf _ (z ▸ c_a0)
  obtain ⟨κ_45, hTy, hEx, k_q_43, hno⟩ := newA (k := 61) hw.2.2.2.2 hD (SubT.app (t' := [(k_44, .long)])) (fun _ => Or.inr (Or.inr (Or.inl ⟨rfl, k_44, y_41.length, _, at_last, rfl⟩)))
  have hG := hG.newA (w1 := [(q_43, .inl (k_44, 64, .inr (.inl (fun _ => 0))))]) hEx hno
  have n_a0 : κ_45 a0 = none := by rw [hno _ _ c_a0]; exact n_a0
  have k_q_1 := hEx _ _ k_q_1
  have k_q_7 := hEx _ _ k_q_7
  have k_q_13 := hEx _ _ k_q_13
  have k_q_19 := hEx _ _ k_q_19
  have k_q_25 := hEx _ _ k_q_25
  have k_q_31 := hEx _ _ k_q_31
  have k_q_37 := hEx _ _ k_q_37
  have c_a0 := c_a0.app (w1 := [(q_43, .inl (k_44, 64, .inr (.inl (fun _ => 0))))])
  have c_q_13 := c_q_13.app (w1 := [(q_43, .inl (k_44, 64, .inr (.inl (fun _ => 0))))])
  have c_q_19 := c_q_19.app (w1 := [(q_43, .inl (k_44, 64, .inr (.inl (fun _ => 0))))])
  have c_q_25 := c_q_25.app (w1 := [(q_43, .inl (k_44, 64, .inr (.inl (fun _ => 0))))])
  have c_q_7 := c_q_7.app (w1 := [(q_43, .inl (k_44, 64, .inr (.inl (fun _ => 0))))])
  have hTs := hTs.trans (SubT.app (t' := [(k_44, .long)]))
  have c_q_43 : cAt (w_42 ++ [(q_43, .inl (k_44, 64, .inr (.inl (fun _ => 0))))]) q_43 (.inl (k_44, 64, .inr (.inl (fun _ => 0)))) := cAt_last
  have hw : tW (dC, dI) (y_41 ++ [(k_44, .long)]) κ_45 B A s (w_42 ++ [(q_43, .inl (k_44, 64, .inr (.inl (fun _ => 0))))]) H locs := ⟨hK, hP, hD, hS, hTy⟩
  clear hf hP hD hS hEx hno hTy hK
  generalize (w_42 ++ [(q_43, .inl (k_44, 64, .inr (.inl (fun _ => 0))))]) = w_46 at hw hG c_q_43 c_a0 c_q_13 c_q_19 c_q_25 c_q_7
  generalize (y_41 ++ [(k_44, .long)]) = y_47 at hw hTs 
  clear c_q_43
  refine t_putUF (ci := 12) (v := .ref q_43) (C := RX12) (T := TX12) (N := 38) hx hb hts iX12 tyX12 tyX12_ok nmX12 hown hw c_a0 n_a0 rfl 17 (by decide) (hts _ tw_1142) (fun _ h9 => h9) rfl hin rfl (tyX12_ok 17 (by decide)) rfl rfl (Nat.le_of_ble_eq_true rfl) dX12_init_70 (fun w_48 H locs hw hk c_a0 => ?_)
  have c_a0 : cAt w_48 a0 (.inr (12, [.ref q_1, .int 0, .int 0, .ref q_7, .ref q_13, .ref q_19, .ref q_25, .ref q_31, .int 0, .int 0, .int 0, .int 0, .int 0, .int 0, .int 0, .ref q_37, .int 0, .ref q_43, .int 0, .null, .null, .int 0, .int 0, .null, .int 0, .null, .int 0, .null, .null, .null, .null, .null, .null, .long 0, .null, .null, .null, .null])) := c_a0
  have hG := hG.set hk (Or.inl rfl)
  have c_q_13 := hk _ _ (nk k_q_13 n_a0) c_q_13
  have c_q_19 := hk _ _ (nk k_q_19 n_a0) c_q_19
  have c_q_25 := hk _ _ (nk k_q_25 n_a0) c_q_25
  have c_q_7 := hk _ _ (nk k_q_7 n_a0) c_q_7
  refine lv_aload_n hx hb dX12_init_73 rfl (lv_at hl 0 rfl) ?_
  refine lv_bipush (v := 11) hx hb dX12_init_74 (by decide) ?_
  refine va_newa (D := (dC, dI)) (a0 := (11, .inr (.inl (fun _ => 0)))) (N' := 11) (ty := .long) (atype := .long) hx hb (hts _ tw_205) rfl hw.1 hw.2.1 hw.2.2.1 hw.2.2.2.1 hA (fun _ => rfl) (by decide) (by decide) (Nat.le_of_ble_eq_true rfl) (Nat.le_of_ble_eq_true rfl) (Nat.le_of_ble_eq_true rfl) dX12_init_76 (fun q_49 k_50 H hK hP hD hS => ?_)
  have hf := fr_new hD
  have ne_a0_q_49 : a0 ≠ q_49 := fun z => hf _ (z ▸ c_a0)
  obtain ⟨κ_51, hTy, hEx, k_q_49, hno⟩ := newA (k := 62) hw.2.2.2.2 hD (SubT.app (t' := [(k_50, .long)])) (fun _ => Or.inr (Or.inr (Or.inl ⟨rfl, k_50, y_47.length, _, at_last, rfl⟩)))
  have hG := hG.newA (w1 := [(q_49, .inl (k_50, 11, .inr (.inl (fun _ => 0))))]) hEx hno
  have n_a0 : κ_51 a0 = none := by rw [hno _ _ c_a0]; exact n_a0
  have k_q_1 := hEx _ _ k_q_1
  have k_q_7 := hEx _ _ k_q_7
  have k_q_13 := hEx _ _ k_q_13
  have k_q_19 := hEx _ _ k_q_19
  have k_q_25 := hEx _ _ k_q_25
  have k_q_31 := hEx _ _ k_q_31
  have k_q_37 := hEx _ _ k_q_37
  have k_q_43 := hEx _ _ k_q_43
  have c_a0 := c_a0.app (w1 := [(q_49, .inl (k_50, 11, .inr (.inl (fun _ => 0))))])
  have c_q_13 := c_q_13.app (w1 := [(q_49, .inl (k_50, 11, .inr (.inl (fun _ => 0))))])
  have c_q_19 := c_q_19.app (w1 := [(q_49, .inl (k_50, 11, .inr (.inl (fun _ => 0))))])
  have c_q_25 := c_q_25.app (w1 := [(q_49, .inl (k_50, 11, .inr (.inl (fun _ => 0))))])
  have c_q_7 := c_q_7.app (w1 := [(q_49, .inl (k_50, 11, .inr (.inl (fun _ => 0))))])
  have hTs := hTs.trans (SubT.app (t' := [(k_50, .long)]))
  have c_q_49 : cAt (w_48 ++ [(q_49, .inl (k_50, 11, .inr (.inl (fun _ => 0))))]) q_49 (.inl (k_50, 11, .inr (.inl (fun _ => 0)))) := cAt_last
  have hw : tW (dC, dI) (y_47 ++ [(k_50, .long)]) κ_51 B A s (w_48 ++ [(q_49, .inl (k_50, 11, .inr (.inl (fun _ => 0))))]) H locs := ⟨hK, hP, hD, hS, hTy⟩
  clear hf hP hD hS hEx hno hTy hK
  generalize (w_48 ++ [(q_49, .inl (k_50, 11, .inr (.inl (fun _ => 0))))]) = w_52 at hw hG c_q_49 c_a0 c_q_13 c_q_19 c_q_25 c_q_7
  generalize (y_47 ++ [(k_50, .long)]) = y_53 at hw hTs 
  clear c_q_49
  refine t_putUF (ci := 12) (v := .ref q_49) (C := RX12) (T := TX12) (N := 38) hx hb hts iX12 tyX12 tyX12_ok nmX12 hown hw c_a0 n_a0 rfl 19 (by decide) (hts _ tw_1144) (fun _ h9 => h9) rfl hin rfl (tyX12_ok 19 (by decide)) rfl rfl (Nat.le_of_ble_eq_true rfl) dX12_init_78 (fun w_54 H locs hw hk c_a0 => ?_)
  have c_a0 : cAt w_54 a0 (.inr (12, [.ref q_1, .int 0, .int 0, .ref q_7, .ref q_13, .ref q_19, .ref q_25, .ref q_31, .int 0, .int 0, .int 0, .int 0, .int 0, .int 0, .int 0, .ref q_37, .int 0, .ref q_43, .int 0, .ref q_49, .null, .int 0, .int 0, .null, .int 0, .null, .int 0, .null, .null, .null, .null, .null, .null, .long 0, .null, .null, .null, .null])) := c_a0
  have hG := hG.set hk (Or.inl rfl)
  have c_q_13 := hk _ _ (nk k_q_13 n_a0) c_q_13
  have c_q_19 := hk _ _ (nk k_q_19 n_a0) c_q_19
  have c_q_25 := hk _ _ (nk k_q_25 n_a0) c_q_25
  have c_q_7 := hk _ _ (nk k_q_7 n_a0) c_q_7
  refine lv_aload_n hx hb dX12_init_81 rfl (lv_at hl 0 rfl) ?_
  refine lv_sipush (v := 306) hx hb dX12_init_82 (by decide) ?_
  refine va_newa (D := (dC, dI)) (a0 := (306, .inl (fun _ => 0))) (N' := 306) (ty := .int) (atype := .int) hx hb (hts _ tw_154) rfl hw.1 hw.2.1 hw.2.2.1 hw.2.2.2.1 hA (fun _ => rfl) (by decide) (by decide) (Nat.le_of_ble_eq_true rfl) (Nat.le_of_ble_eq_true rfl) (Nat.le_of_ble_eq_true rfl) dX12_init_85 (fun q_55 k_56 H hK hP hD hS => ?_)
  have hf := fr_new hD
  have ne_a0_q_55 : a0 ≠ q_55 := fun z => hf _ (z ▸ c_a0)
  obtain ⟨κ_57, hTy, hEx, k_q_55, hno⟩ := newA (k := 63) hw.2.2.2.2 hD (SubT.app (t' := [(k_56, .int)])) (fun _ => Or.inr (Or.inl ⟨rfl, k_56, y_53.length, _, at_last, rfl, fun j hj => by rw [aiv_said]; exact ivS_z (by decide) _⟩))
  have hG := hG.newA (w1 := [(q_55, .inl (k_56, 306, .inl (fun _ => 0)))]) hEx hno
  have n_a0 : κ_57 a0 = none := by rw [hno _ _ c_a0]; exact n_a0
  have k_q_1 := hEx _ _ k_q_1
  have k_q_7 := hEx _ _ k_q_7
  have k_q_13 := hEx _ _ k_q_13
  have k_q_19 := hEx _ _ k_q_19
  have k_q_25 := hEx _ _ k_q_25
  have k_q_31 := hEx _ _ k_q_31
  have k_q_37 := hEx _ _ k_q_37
  have k_q_43 := hEx _ _ k_q_43
  have k_q_49 := hEx _ _ k_q_49
  have c_a0 := c_a0.app (w1 := [(q_55, .inl (k_56, 306, .inl (fun _ => 0)))])
  have c_q_13 := c_q_13.app (w1 := [(q_55, .inl (k_56, 306, .inl (fun _ => 0)))])
  have c_q_19 := c_q_19.app (w1 := [(q_55, .inl (k_56, 306, .inl (fun _ => 0)))])
  have c_q_25 := c_q_25.app (w1 := [(q_55, .inl (k_56, 306, .inl (fun _ => 0)))])
  have c_q_7 := c_q_7.app (w1 := [(q_55, .inl (k_56, 306, .inl (fun _ => 0)))])
  have hTs := hTs.trans (SubT.app (t' := [(k_56, .int)]))
  have c_q_55 : cAt (w_54 ++ [(q_55, .inl (k_56, 306, .inl (fun _ => 0)))]) q_55 (.inl (k_56, 306, .inl (fun _ => 0))) := cAt_last
  have hw : tW (dC, dI) (y_53 ++ [(k_56, .int)]) κ_57 B A s (w_54 ++ [(q_55, .inl (k_56, 306, .inl (fun _ => 0)))]) H locs := ⟨hK, hP, hD, hS, hTy⟩
  clear hf hP hD hS hEx hno hTy hK
  generalize (w_54 ++ [(q_55, .inl (k_56, 306, .inl (fun _ => 0)))]) = w_58 at hw hG c_q_55 c_a0 c_q_13 c_q_19 c_q_25 c_q_7
  generalize (y_53 ++ [(k_56, .int)]) = y_59 at hw hTs 
  refine t_putUF (ci := 12) (v := .ref q_55) (C := RX12) (T := TX12) (N := 38) hx hb hts iX12 tyX12 tyX12_ok nmX12 hown hw c_a0 n_a0 rfl 20 (by decide) (hts _ tw_1145) (fun _ h9 => h9) rfl hin rfl (tyX12_ok 20 (by decide)) rfl rfl (Nat.le_of_ble_eq_true rfl) dX12_init_87 (fun w_60 H locs hw hk c_a0 => ?_)
  have c_a0 : cAt w_60 a0 (.inr (12, [.ref q_1, .int 0, .int 0, .ref q_7, .ref q_13, .ref q_19, .ref q_25, .ref q_31, .int 0, .int 0, .int 0, .int 0, .int 0, .int 0, .int 0, .ref q_37, .int 0, .ref q_43, .int 0, .ref q_49, .ref q_55, .int 0, .int 0, .null, .int 0, .null, .int 0, .null, .null, .null, .null, .null, .null, .long 0, .null, .null, .null, .null])) := c_a0
  have hG := hG.set hk (Or.inl rfl)
  have c_q_13 := hk _ _ (nk k_q_13 n_a0) c_q_13
  have c_q_19 := hk _ _ (nk k_q_19 n_a0) c_q_19
  have c_q_25 := hk _ _ (nk k_q_25 n_a0) c_q_25
  have c_q_55 := hk _ _ (nk k_q_55 n_a0) c_q_55
  have c_q_7 := hk _ _ (nk k_q_7 n_a0) c_q_7
  refine lv_aload_n hx hb dX12_init_90 rfl (lv_at hl 0 rfl) ?_
  refine lv_iconst (v := (-1)) hx hb dX12_init_91 (by decide) ?_
  refine t_putU (ci := 12) (v := .int (-1)) (C := RX12) (T := TX12) (N := 38) hx hb hts iX12 tyX12 tyX12_ok nmX12 hown hw c_a0 n_a0 rfl 21 (by decide) (hts _ tw_1146) (fun _ h9 => h9) rfl (tyX12_ok 21 (by decide)) rfl rfl (Nat.le_of_ble_eq_true rfl) dX12_init_92 (fun w_61 H locs hw hk c_a0 => ?_)
  have c_a0 : cAt w_61 a0 (.inr (12, [.ref q_1, .int 0, .int 0, .ref q_7, .ref q_13, .ref q_19, .ref q_25, .ref q_31, .int 0, .int 0, .int 0, .int 0, .int 0, .int 0, .int 0, .ref q_37, .int 0, .ref q_43, .int 0, .ref q_49, .ref q_55, .int (-1), .int 0, .null, .int 0, .null, .int 0, .null, .null, .null, .null, .null, .null, .long 0, .null, .null, .null, .null])) := c_a0
  have hG := hG.set hk (Or.inl rfl)
  have c_q_13 := hk _ _ (nk k_q_13 n_a0) c_q_13
  have c_q_19 := hk _ _ (nk k_q_19 n_a0) c_q_19
  have c_q_25 := hk _ _ (nk k_q_25 n_a0) c_q_25
  have c_q_55 := hk _ _ (nk k_q_55 n_a0) c_q_55
  have c_q_7 := hk _ _ (nk k_q_7 n_a0) c_q_7
  refine lv_aload_n hx hb dX12_init_95 rfl (lv_at hl 0 rfl) ?_
  refine lv_bipush (v := 6) hx hb dX12_init_96 (by decide) ?_
  refine va_newa (D := (dC, dI)) (a0 := (6, .inl (fun _ => 0))) (N' := 6) (ty := .int) (atype := .int) hx hb (hts _ tw_154) rfl hw.1 hw.2.1 hw.2.2.1 hw.2.2.2.1 hA (fun _ => rfl) (by decide) (by decide) (Nat.le_of_ble_eq_true rfl) (Nat.le_of_ble_eq_true rfl) (Nat.le_of_ble_eq_true rfl) dX12_init_98 (fun q_62 k_63 H hK hP hD hS => ?_)
  have hf := fr_new hD
  have ne_a0_q_62 : a0 ≠ q_62 := fun z => hf _ (z ▸ c_a0)
  obtain ⟨κ_64, hTy, hEx, k_q_62, hno⟩ := newA (k := 64) hw.2.2.2.2 hD (SubT.app (t' := [(k_63, .int)])) (fun _ => Or.inr (Or.inl ⟨rfl, k_63, y_59.length, _, at_last, rfl, fun j hj => ⟨(by decide : (-2147483648 : Int) ≤ (0 : Int32).toInt), (by decide : (0 : Int32).toInt ≤ (2147483647 : Int))⟩⟩))
  have hG := hG.newA (w1 := [(q_62, .inl (k_63, 6, .inl (fun _ => 0)))]) hEx hno
  have n_a0 : κ_64 a0 = none := by rw [hno _ _ c_a0]; exact n_a0
  have k_q_1 := hEx _ _ k_q_1
  have k_q_7 := hEx _ _ k_q_7
  have k_q_13 := hEx _ _ k_q_13
  have k_q_19 := hEx _ _ k_q_19
  have k_q_25 := hEx _ _ k_q_25
  have k_q_31 := hEx _ _ k_q_31
  have k_q_37 := hEx _ _ k_q_37
  have k_q_43 := hEx _ _ k_q_43
  have k_q_49 := hEx _ _ k_q_49
  have k_q_55 := hEx _ _ k_q_55
  have c_a0 := c_a0.app (w1 := [(q_62, .inl (k_63, 6, .inl (fun _ => 0)))])
  have c_q_13 := c_q_13.app (w1 := [(q_62, .inl (k_63, 6, .inl (fun _ => 0)))])
  have c_q_19 := c_q_19.app (w1 := [(q_62, .inl (k_63, 6, .inl (fun _ => 0)))])
  have c_q_25 := c_q_25.app (w1 := [(q_62, .inl (k_63, 6, .inl (fun _ => 0)))])
  have c_q_55 := c_q_55.app (w1 := [(q_62, .inl (k_63, 6, .inl (fun _ => 0)))])
  have c_q_7 := c_q_7.app (w1 := [(q_62, .inl (k_63, 6, .inl (fun _ => 0)))])
  have hTs := hTs.trans (SubT.app (t' := [(k_63, .int)]))
  have c_q_62 : cAt (w_61 ++ [(q_62, .inl (k_63, 6, .inl (fun _ => 0)))]) q_62 (.inl (k_63, 6, .inl (fun _ => 0))) := cAt_last
  have hw : tW (dC, dI) (y_59 ++ [(k_63, .int)]) κ_64 B A s (w_61 ++ [(q_62, .inl (k_63, 6, .inl (fun _ => 0)))]) H locs := ⟨hK, hP, hD, hS, hTy⟩
  clear hf hP hD hS hEx hno hTy hK
  generalize (w_61 ++ [(q_62, .inl (k_63, 6, .inl (fun _ => 0)))]) = w_65 at hw hG c_q_62 c_a0 c_q_13 c_q_19 c_q_25 c_q_55 c_q_7
  generalize (y_59 ++ [(k_63, .int)]) = y_66 at hw hTs 
  clear c_q_62
  refine t_putUF (ci := 12) (v := .ref q_62) (C := RX12) (T := TX12) (N := 38) hx hb hts iX12 tyX12 tyX12_ok nmX12 hown hw c_a0 n_a0 rfl 23 (by decide) (hts _ tw_1148) (fun _ h9 => h9) rfl hin rfl (tyX12_ok 23 (by decide)) rfl rfl (Nat.le_of_ble_eq_true rfl) dX12_init_100 (fun w_67 H locs hw hk c_a0 => ?_)
  have c_a0 : cAt w_67 a0 (.inr (12, [.ref q_1, .int 0, .int 0, .ref q_7, .ref q_13, .ref q_19, .ref q_25, .ref q_31, .int 0, .int 0, .int 0, .int 0, .int 0, .int 0, .int 0, .ref q_37, .int 0, .ref q_43, .int 0, .ref q_49, .ref q_55, .int (-1), .int 0, .ref q_62, .int 0, .null, .int 0, .null, .null, .null, .null, .null, .null, .long 0, .null, .null, .null, .null])) := c_a0
  have hG := hG.set hk (Or.inl rfl)
  have c_q_13 := hk _ _ (nk k_q_13 n_a0) c_q_13
  have c_q_19 := hk _ _ (nk k_q_19 n_a0) c_q_19
  have c_q_25 := hk _ _ (nk k_q_25 n_a0) c_q_25
  have c_q_55 := hk _ _ (nk k_q_55 n_a0) c_q_55
  have c_q_7 := hk _ _ (nk k_q_7 n_a0) c_q_7
  refine lv_aload_n hx hb dX12_init_103 rfl (lv_at hl 0 rfl) ?_
  refine lv_sipush (v := 840) hx hb dX12_init_104 (by decide) ?_
  refine va_newa (D := (dC, dI)) (a0 := (840, .inl (fun _ => 0))) (N' := 840) (ty := .int) (atype := .int) hx hb (hts _ tw_154) rfl hw.1 hw.2.1 hw.2.2.1 hw.2.2.2.1 hA (fun _ => rfl) (by decide) (by decide) (Nat.le_of_ble_eq_true rfl) (Nat.le_of_ble_eq_true rfl) (Nat.le_of_ble_eq_true rfl) dX12_init_107 (fun q_68 k_69 H hK hP hD hS => ?_)
  have hf := fr_new hD
  have ne_a0_q_68 : a0 ≠ q_68 := fun z => hf _ (z ▸ c_a0)
  obtain ⟨κ_70, hTy, hEx, k_q_68, hno⟩ := newA (k := 65) hw.2.2.2.2 hD (SubT.app (t' := [(k_69, .int)])) (fun _ => Or.inr (Or.inl ⟨rfl, k_69, y_66.length, _, at_last, rfl, fun j hj => by rw [aiv_was]; exact ivS_z (by decide) _⟩))
  have hG := hG.newA (w1 := [(q_68, .inl (k_69, 840, .inl (fun _ => 0)))]) hEx hno
  have n_a0 : κ_70 a0 = none := by rw [hno _ _ c_a0]; exact n_a0
  have k_q_1 := hEx _ _ k_q_1
  have k_q_7 := hEx _ _ k_q_7
  have k_q_13 := hEx _ _ k_q_13
  have k_q_19 := hEx _ _ k_q_19
  have k_q_25 := hEx _ _ k_q_25
  have k_q_31 := hEx _ _ k_q_31
  have k_q_37 := hEx _ _ k_q_37
  have k_q_43 := hEx _ _ k_q_43
  have k_q_49 := hEx _ _ k_q_49
  have k_q_55 := hEx _ _ k_q_55
  have k_q_62 := hEx _ _ k_q_62
  have c_a0 := c_a0.app (w1 := [(q_68, .inl (k_69, 840, .inl (fun _ => 0)))])
  have c_q_13 := c_q_13.app (w1 := [(q_68, .inl (k_69, 840, .inl (fun _ => 0)))])
  have c_q_19 := c_q_19.app (w1 := [(q_68, .inl (k_69, 840, .inl (fun _ => 0)))])
  have c_q_25 := c_q_25.app (w1 := [(q_68, .inl (k_69, 840, .inl (fun _ => 0)))])
  have c_q_55 := c_q_55.app (w1 := [(q_68, .inl (k_69, 840, .inl (fun _ => 0)))])
  have c_q_7 := c_q_7.app (w1 := [(q_68, .inl (k_69, 840, .inl (fun _ => 0)))])
  have hTs := hTs.trans (SubT.app (t' := [(k_69, .int)]))
  have c_q_68 : cAt (w_67 ++ [(q_68, .inl (k_69, 840, .inl (fun _ => 0)))]) q_68 (.inl (k_69, 840, .inl (fun _ => 0))) := cAt_last
  have hw : tW (dC, dI) (y_66 ++ [(k_69, .int)]) κ_70 B A s (w_67 ++ [(q_68, .inl (k_69, 840, .inl (fun _ => 0)))]) H locs := ⟨hK, hP, hD, hS, hTy⟩
  clear hf hP hD hS hEx hno hTy hK
  generalize (w_67 ++ [(q_68, .inl (k_69, 840, .inl (fun _ => 0)))]) = w_71 at hw hG c_q_68 c_a0 c_q_13 c_q_19 c_q_25 c_q_55 c_q_7
  generalize (y_66 ++ [(k_69, .int)]) = y_72 at hw hTs 
  clear c_q_68
  refine t_putUF (ci := 12) (v := .ref q_68) (C := RX12) (T := TX12) (N := 38) hx hb hts iX12 tyX12 tyX12_ok nmX12 hown hw c_a0 n_a0 rfl 25 (by decide) (hts _ tw_1150) (fun _ h9 => h9) rfl hin rfl (tyX12_ok 25 (by decide)) rfl rfl (Nat.le_of_ble_eq_true rfl) dX12_init_109 (fun w_73 H locs hw hk c_a0 => ?_)
  have c_a0 : cAt w_73 a0 (.inr (12, [.ref q_1, .int 0, .int 0, .ref q_7, .ref q_13, .ref q_19, .ref q_25, .ref q_31, .int 0, .int 0, .int 0, .int 0, .int 0, .int 0, .int 0, .ref q_37, .int 0, .ref q_43, .int 0, .ref q_49, .ref q_55, .int (-1), .int 0, .ref q_62, .int 0, .ref q_68, .int 0, .null, .null, .null, .null, .null, .null, .long 0, .null, .null, .null, .null])) := c_a0
  have hG := hG.set hk (Or.inl rfl)
  have c_q_13 := hk _ _ (nk k_q_13 n_a0) c_q_13
  have c_q_19 := hk _ _ (nk k_q_19 n_a0) c_q_19
  have c_q_25 := hk _ _ (nk k_q_25 n_a0) c_q_25
  have c_q_55 := hk _ _ (nk k_q_55 n_a0) c_q_55
  have c_q_7 := hk _ _ (nk k_q_7 n_a0) c_q_7
  refine lv_aload_n hx hb dX12_init_112 rfl (lv_at hl 0 rfl) ?_
  refine lv_bipush (v := 42) hx hb dX12_init_113 (by decide) ?_
  refine va_newa (D := (dC, dI)) (a0 := (42, .inl (fun _ => 0))) (N' := 42) (ty := .int) (atype := .int) hx hb (hts _ tw_154) rfl hw.1 hw.2.1 hw.2.2.1 hw.2.2.2.1 hA (fun _ => rfl) (by decide) (by decide) (Nat.le_of_ble_eq_true rfl) (Nat.le_of_ble_eq_true rfl) (Nat.le_of_ble_eq_true rfl) dX12_init_115 (fun q_74 k_75 H hK hP hD hS => ?_)
  have hf := fr_new hD
  have ne_a0_q_74 : a0 ≠ q_74 := fun z => hf _ (z ▸ c_a0)
  obtain ⟨κ_76, hTy, hEx, k_q_74, hno⟩ := newA (k := 66) hw.2.2.2.2 hD (SubT.app (t' := [(k_75, .int)])) (fun _ => Or.inr (Or.inl ⟨rfl, k_75, y_72.length, _, at_last, rfl, fun j hj => by rw [aiv_kept]; exact ivS_z (by decide) _⟩))
  have hG := hG.newA (w1 := [(q_74, .inl (k_75, 42, .inl (fun _ => 0)))]) hEx hno
  have n_a0 : κ_76 a0 = none := by rw [hno _ _ c_a0]; exact n_a0
  have k_q_1 := hEx _ _ k_q_1
  have k_q_7 := hEx _ _ k_q_7
  have k_q_13 := hEx _ _ k_q_13
  have k_q_19 := hEx _ _ k_q_19
  have k_q_25 := hEx _ _ k_q_25
  have k_q_31 := hEx _ _ k_q_31
  have k_q_37 := hEx _ _ k_q_37
  have k_q_43 := hEx _ _ k_q_43
  have k_q_49 := hEx _ _ k_q_49
  have k_q_55 := hEx _ _ k_q_55
  have k_q_62 := hEx _ _ k_q_62
  have k_q_68 := hEx _ _ k_q_68
  have c_a0 := c_a0.app (w1 := [(q_74, .inl (k_75, 42, .inl (fun _ => 0)))])
  have c_q_13 := c_q_13.app (w1 := [(q_74, .inl (k_75, 42, .inl (fun _ => 0)))])
  have c_q_19 := c_q_19.app (w1 := [(q_74, .inl (k_75, 42, .inl (fun _ => 0)))])
  have c_q_25 := c_q_25.app (w1 := [(q_74, .inl (k_75, 42, .inl (fun _ => 0)))])
  have c_q_55 := c_q_55.app (w1 := [(q_74, .inl (k_75, 42, .inl (fun _ => 0)))])
  have c_q_7 := c_q_7.app (w1 := [(q_74, .inl (k_75, 42, .inl (fun _ => 0)))])
  have hTs := hTs.trans (SubT.app (t' := [(k_75, .int)]))
  have c_q_74 : cAt (w_73 ++ [(q_74, .inl (k_75, 42, .inl (fun _ => 0)))]) q_74 (.inl (k_75, 42, .inl (fun _ => 0))) := cAt_last
  have hw : tW (dC, dI) (y_72 ++ [(k_75, .int)]) κ_76 B A s (w_73 ++ [(q_74, .inl (k_75, 42, .inl (fun _ => 0)))]) H locs := ⟨hK, hP, hD, hS, hTy⟩
  clear hf hP hD hS hEx hno hTy hK
  generalize (w_73 ++ [(q_74, .inl (k_75, 42, .inl (fun _ => 0)))]) = w_77 at hw hG c_q_74 c_a0 c_q_13 c_q_19 c_q_25 c_q_55 c_q_7
  generalize (y_72 ++ [(k_75, .int)]) = y_78 at hw hTs 
  clear c_q_74
  refine t_putUF (ci := 12) (v := .ref q_74) (C := RX12) (T := TX12) (N := 38) hx hb hts iX12 tyX12 tyX12_ok nmX12 hown hw c_a0 n_a0 rfl 27 (by decide) (hts _ tw_1152) (fun _ h9 => h9) rfl hin rfl (tyX12_ok 27 (by decide)) rfl rfl (Nat.le_of_ble_eq_true rfl) dX12_init_117 (fun w_79 H locs hw hk c_a0 => ?_)
  have c_a0 : cAt w_79 a0 (.inr (12, [.ref q_1, .int 0, .int 0, .ref q_7, .ref q_13, .ref q_19, .ref q_25, .ref q_31, .int 0, .int 0, .int 0, .int 0, .int 0, .int 0, .int 0, .ref q_37, .int 0, .ref q_43, .int 0, .ref q_49, .ref q_55, .int (-1), .int 0, .ref q_62, .int 0, .ref q_68, .int 0, .ref q_74, .null, .null, .null, .null, .null, .long 0, .null, .null, .null, .null])) := c_a0
  have hG := hG.set hk (Or.inl rfl)
  have c_q_13 := hk _ _ (nk k_q_13 n_a0) c_q_13
  have c_q_19 := hk _ _ (nk k_q_19 n_a0) c_q_19
  have c_q_25 := hk _ _ (nk k_q_25 n_a0) c_q_25
  have c_q_55 := hk _ _ (nk k_q_55 n_a0) c_q_55
  have c_q_7 := hk _ _ (nk k_q_7 n_a0) c_q_7
  refine lv_aload_n hx hb dX12_init_120 rfl (lv_at hl 0 rfl) ?_
  refine lv_bipush (v := 36) hx hb dX12_init_121 (by decide) ?_
  refine va_newa (D := (dC, dI)) (a0 := (36, .inr (.inl (fun _ => 0)))) (N' := 36) (ty := .long) (atype := .long) hx hb (hts _ tw_205) rfl hw.1 hw.2.1 hw.2.2.1 hw.2.2.2.1 hA (fun _ => rfl) (by decide) (by decide) (Nat.le_of_ble_eq_true rfl) (Nat.le_of_ble_eq_true rfl) (Nat.le_of_ble_eq_true rfl) dX12_init_123 (fun q_80 k_81 H hK hP hD hS => ?_)
  have hf := fr_new hD
  have ne_a0_q_80 : a0 ≠ q_80 := fun z => hf _ (z ▸ c_a0)
  obtain ⟨κ_82, hTy, hEx, k_q_80, hno⟩ := newA (k := 67) hw.2.2.2.2 hD (SubT.app (t' := [(k_81, .long)])) (fun _ => Or.inr (Or.inr (Or.inl ⟨rfl, k_81, y_78.length, _, at_last, rfl⟩)))
  have hG := hG.newA (w1 := [(q_80, .inl (k_81, 36, .inr (.inl (fun _ => 0))))]) hEx hno
  have n_a0 : κ_82 a0 = none := by rw [hno _ _ c_a0]; exact n_a0
  have k_q_1 := hEx _ _ k_q_1
  have k_q_7 := hEx _ _ k_q_7
  have k_q_13 := hEx _ _ k_q_13
  have k_q_19 := hEx _ _ k_q_19
  have k_q_25 := hEx _ _ k_q_25
  have k_q_31 := hEx _ _ k_q_31
  have k_q_37 := hEx _ _ k_q_37
  have k_q_43 := hEx _ _ k_q_43
  have k_q_49 := hEx _ _ k_q_49
  have k_q_55 := hEx _ _ k_q_55
  have k_q_62 := hEx _ _ k_q_62
  have k_q_68 := hEx _ _ k_q_68
  have k_q_74 := hEx _ _ k_q_74
  have c_a0 := c_a0.app (w1 := [(q_80, .inl (k_81, 36, .inr (.inl (fun _ => 0))))])
  have c_q_13 := c_q_13.app (w1 := [(q_80, .inl (k_81, 36, .inr (.inl (fun _ => 0))))])
  have c_q_19 := c_q_19.app (w1 := [(q_80, .inl (k_81, 36, .inr (.inl (fun _ => 0))))])
  have c_q_25 := c_q_25.app (w1 := [(q_80, .inl (k_81, 36, .inr (.inl (fun _ => 0))))])
  have c_q_55 := c_q_55.app (w1 := [(q_80, .inl (k_81, 36, .inr (.inl (fun _ => 0))))])
  have c_q_7 := c_q_7.app (w1 := [(q_80, .inl (k_81, 36, .inr (.inl (fun _ => 0))))])
  have hTs := hTs.trans (SubT.app (t' := [(k_81, .long)]))
  have c_q_80 : cAt (w_79 ++ [(q_80, .inl (k_81, 36, .inr (.inl (fun _ => 0))))]) q_80 (.inl (k_81, 36, .inr (.inl (fun _ => 0)))) := cAt_last
  have hw : tW (dC, dI) (y_78 ++ [(k_81, .long)]) κ_82 B A s (w_79 ++ [(q_80, .inl (k_81, 36, .inr (.inl (fun _ => 0))))]) H locs := ⟨hK, hP, hD, hS, hTy⟩
  clear hf hP hD hS hEx hno hTy hK
  generalize (w_79 ++ [(q_80, .inl (k_81, 36, .inr (.inl (fun _ => 0))))]) = w_83 at hw hG c_q_80 c_a0 c_q_13 c_q_19 c_q_25 c_q_55 c_q_7
  generalize (y_78 ++ [(k_81, .long)]) = y_84 at hw hTs 
  clear c_q_80
  refine t_putUF (ci := 12) (v := .ref q_80) (C := RX12) (T := TX12) (N := 38) hx hb hts iX12 tyX12 tyX12_ok nmX12 hown hw c_a0 n_a0 rfl 28 (by decide) (hts _ tw_1153) (fun _ h9 => h9) rfl hin rfl (tyX12_ok 28 (by decide)) rfl rfl (Nat.le_of_ble_eq_true rfl) dX12_init_125 (fun w_85 H locs hw hk c_a0 => ?_)
  have c_a0 : cAt w_85 a0 (.inr (12, [.ref q_1, .int 0, .int 0, .ref q_7, .ref q_13, .ref q_19, .ref q_25, .ref q_31, .int 0, .int 0, .int 0, .int 0, .int 0, .int 0, .int 0, .ref q_37, .int 0, .ref q_43, .int 0, .ref q_49, .ref q_55, .int (-1), .int 0, .ref q_62, .int 0, .ref q_68, .int 0, .ref q_74, .ref q_80, .null, .null, .null, .null, .long 0, .null, .null, .null, .null])) := c_a0
  have hG := hG.set hk (Or.inl rfl)
  have c_q_13 := hk _ _ (nk k_q_13 n_a0) c_q_13
  have c_q_19 := hk _ _ (nk k_q_19 n_a0) c_q_19
  have c_q_25 := hk _ _ (nk k_q_25 n_a0) c_q_25
  have c_q_55 := hk _ _ (nk k_q_55 n_a0) c_q_55
  have c_q_7 := hk _ _ (nk k_q_7 n_a0) c_q_7
  refine lv_aload_n hx hb dX12_init_128 rfl (lv_at hl 0 rfl) ?_
  refine lv_bipush (v := 25) hx hb dX12_init_129 (by decide) ?_
  refine va_newa (D := (dC, dI)) (a0 := (25, .inl (fun _ => 0))) (N' := 25) (ty := .int) (atype := .int) hx hb (hts _ tw_154) rfl hw.1 hw.2.1 hw.2.2.1 hw.2.2.2.1 hA (fun _ => rfl) (by decide) (by decide) (Nat.le_of_ble_eq_true rfl) (Nat.le_of_ble_eq_true rfl) (Nat.le_of_ble_eq_true rfl) dX12_init_131 (fun q_86 k_87 H hK hP hD hS => ?_)
  have hf := fr_new hD
  have ne_a0_q_86 : a0 ≠ q_86 := fun z => hf _ (z ▸ c_a0)
  obtain ⟨κ_88, hTy, hEx, k_q_86, hno⟩ := newA (k := 68) hw.2.2.2.2 hD (SubT.app (t' := [(k_87, .int)])) (fun _ => Or.inr (Or.inl ⟨rfl, k_87, y_84.length, _, at_last, rfl, fun j hj => ⟨(by decide : (-2147483648 : Int) ≤ (0 : Int32).toInt), (by decide : (0 : Int32).toInt ≤ (2147483647 : Int))⟩⟩))
  have hG := hG.newA (w1 := [(q_86, .inl (k_87, 25, .inl (fun _ => 0)))]) hEx hno
  have n_a0 : κ_88 a0 = none := by rw [hno _ _ c_a0]; exact n_a0
  have k_q_1 := hEx _ _ k_q_1
  have k_q_7 := hEx _ _ k_q_7
  have k_q_13 := hEx _ _ k_q_13
  have k_q_19 := hEx _ _ k_q_19
  have k_q_25 := hEx _ _ k_q_25
  have k_q_31 := hEx _ _ k_q_31
  have k_q_37 := hEx _ _ k_q_37
  have k_q_43 := hEx _ _ k_q_43
  have k_q_49 := hEx _ _ k_q_49
  have k_q_55 := hEx _ _ k_q_55
  have k_q_62 := hEx _ _ k_q_62
  have k_q_68 := hEx _ _ k_q_68
  have k_q_74 := hEx _ _ k_q_74
  have k_q_80 := hEx _ _ k_q_80
  have c_a0 := c_a0.app (w1 := [(q_86, .inl (k_87, 25, .inl (fun _ => 0)))])
  have c_q_13 := c_q_13.app (w1 := [(q_86, .inl (k_87, 25, .inl (fun _ => 0)))])
  have c_q_19 := c_q_19.app (w1 := [(q_86, .inl (k_87, 25, .inl (fun _ => 0)))])
  have c_q_25 := c_q_25.app (w1 := [(q_86, .inl (k_87, 25, .inl (fun _ => 0)))])
  have c_q_55 := c_q_55.app (w1 := [(q_86, .inl (k_87, 25, .inl (fun _ => 0)))])
  have c_q_7 := c_q_7.app (w1 := [(q_86, .inl (k_87, 25, .inl (fun _ => 0)))])
  have hTs := hTs.trans (SubT.app (t' := [(k_87, .int)]))
  have c_q_86 : cAt (w_85 ++ [(q_86, .inl (k_87, 25, .inl (fun _ => 0)))]) q_86 (.inl (k_87, 25, .inl (fun _ => 0))) := cAt_last
  have hw : tW (dC, dI) (y_84 ++ [(k_87, .int)]) κ_88 B A s (w_85 ++ [(q_86, .inl (k_87, 25, .inl (fun _ => 0)))]) H locs := ⟨hK, hP, hD, hS, hTy⟩
  clear hf hP hD hS hEx hno hTy hK
  generalize (w_85 ++ [(q_86, .inl (k_87, 25, .inl (fun _ => 0)))]) = w_89 at hw hG c_q_86 c_a0 c_q_13 c_q_19 c_q_25 c_q_55 c_q_7
  generalize (y_84 ++ [(k_87, .int)]) = y_90 at hw hTs 
  clear c_q_86
  refine t_putUF (ci := 12) (v := .ref q_86) (C := RX12) (T := TX12) (N := 38) hx hb hts iX12 tyX12 tyX12_ok nmX12 hown hw c_a0 n_a0 rfl 29 (by decide) (hts _ tw_1154) (fun _ h9 => h9) rfl hin rfl (tyX12_ok 29 (by decide)) rfl rfl (Nat.le_of_ble_eq_true rfl) dX12_init_133 (fun w_91 H locs hw hk c_a0 => ?_)
  have c_a0 : cAt w_91 a0 (.inr (12, [.ref q_1, .int 0, .int 0, .ref q_7, .ref q_13, .ref q_19, .ref q_25, .ref q_31, .int 0, .int 0, .int 0, .int 0, .int 0, .int 0, .int 0, .ref q_37, .int 0, .ref q_43, .int 0, .ref q_49, .ref q_55, .int (-1), .int 0, .ref q_62, .int 0, .ref q_68, .int 0, .ref q_74, .ref q_80, .ref q_86, .null, .null, .null, .long 0, .null, .null, .null, .null])) := c_a0
  have hG := hG.set hk (Or.inl rfl)
  have c_q_13 := hk _ _ (nk k_q_13 n_a0) c_q_13
  have c_q_19 := hk _ _ (nk k_q_19 n_a0) c_q_19
  have c_q_25 := hk _ _ (nk k_q_25 n_a0) c_q_25
  have c_q_55 := hk _ _ (nk k_q_55 n_a0) c_q_55
  have c_q_7 := hk _ _ (nk k_q_7 n_a0) c_q_7
  refine lv_aload_n hx hb dX12_init_136 rfl (lv_at hl 0 rfl) ?_
  refine lv_sipush (v := 384) hx hb dX12_init_137 (by decide) ?_
  refine va_newa (D := (dC, dI)) (a0 := (384, .inl (fun _ => 0))) (N' := 384) (ty := .int) (atype := .int) hx hb (hts _ tw_154) rfl hw.1 hw.2.1 hw.2.2.1 hw.2.2.2.1 hA (fun _ => rfl) (by decide) (by decide) (Nat.le_of_ble_eq_true rfl) (Nat.le_of_ble_eq_true rfl) (Nat.le_of_ble_eq_true rfl) dX12_init_140 (fun q_92 k_93 H hK hP hD hS => ?_)
  have hf := fr_new hD
  have ne_a0_q_92 : a0 ≠ q_92 := fun z => hf _ (z ▸ c_a0)
  obtain ⟨κ_94, hTy, hEx, k_q_92, hno⟩ := newA (k := 69) hw.2.2.2.2 hD (SubT.app (t' := [(k_93, .int)])) (fun _ => Or.inr (Or.inl ⟨rfl, k_93, y_90.length, _, at_last, rfl, fun j hj => ⟨(by decide : (-2147483648 : Int) ≤ (0 : Int32).toInt), (by decide : (0 : Int32).toInt ≤ (2147483647 : Int))⟩⟩))
  have hG := hG.newA (w1 := [(q_92, .inl (k_93, 384, .inl (fun _ => 0)))]) hEx hno
  have n_a0 : κ_94 a0 = none := by rw [hno _ _ c_a0]; exact n_a0
  have k_q_1 := hEx _ _ k_q_1
  have k_q_7 := hEx _ _ k_q_7
  have k_q_13 := hEx _ _ k_q_13
  have k_q_19 := hEx _ _ k_q_19
  have k_q_25 := hEx _ _ k_q_25
  have k_q_31 := hEx _ _ k_q_31
  have k_q_37 := hEx _ _ k_q_37
  have k_q_43 := hEx _ _ k_q_43
  have k_q_49 := hEx _ _ k_q_49
  have k_q_55 := hEx _ _ k_q_55
  have k_q_62 := hEx _ _ k_q_62
  have k_q_68 := hEx _ _ k_q_68
  have k_q_74 := hEx _ _ k_q_74
  have k_q_80 := hEx _ _ k_q_80
  have k_q_86 := hEx _ _ k_q_86
  have c_a0 := c_a0.app (w1 := [(q_92, .inl (k_93, 384, .inl (fun _ => 0)))])
  have c_q_13 := c_q_13.app (w1 := [(q_92, .inl (k_93, 384, .inl (fun _ => 0)))])
  have c_q_19 := c_q_19.app (w1 := [(q_92, .inl (k_93, 384, .inl (fun _ => 0)))])
  have c_q_25 := c_q_25.app (w1 := [(q_92, .inl (k_93, 384, .inl (fun _ => 0)))])
  have c_q_55 := c_q_55.app (w1 := [(q_92, .inl (k_93, 384, .inl (fun _ => 0)))])
  have c_q_7 := c_q_7.app (w1 := [(q_92, .inl (k_93, 384, .inl (fun _ => 0)))])
  have hTs := hTs.trans (SubT.app (t' := [(k_93, .int)]))
  have c_q_92 : cAt (w_91 ++ [(q_92, .inl (k_93, 384, .inl (fun _ => 0)))]) q_92 (.inl (k_93, 384, .inl (fun _ => 0))) := cAt_last
  have hw : tW (dC, dI) (y_90 ++ [(k_93, .int)]) κ_94 B A s (w_91 ++ [(q_92, .inl (k_93, 384, .inl (fun _ => 0)))]) H locs := ⟨hK, hP, hD, hS, hTy⟩
  clear hf hP hD hS hEx hno hTy hK
  generalize (w_91 ++ [(q_92, .inl (k_93, 384, .inl (fun _ => 0)))]) = w_95 at hw hG c_q_92 c_a0 c_q_13 c_q_19 c_q_25 c_q_55 c_q_7
  generalize (y_90 ++ [(k_93, .int)]) = y_96 at hw hTs 
  clear c_q_92
  refine t_putUF (ci := 12) (v := .ref q_92) (C := RX12) (T := TX12) (N := 38) hx hb hts iX12 tyX12 tyX12_ok nmX12 hown hw c_a0 n_a0 rfl 30 (by decide) (hts _ tw_1155) (fun _ h9 => h9) rfl hin rfl (tyX12_ok 30 (by decide)) rfl rfl (Nat.le_of_ble_eq_true rfl) dX12_init_142 (fun w_97 H locs hw hk c_a0 => ?_)
  have c_a0 : cAt w_97 a0 (.inr (12, [.ref q_1, .int 0, .int 0, .ref q_7, .ref q_13, .ref q_19, .ref q_25, .ref q_31, .int 0, .int 0, .int 0, .int 0, .int 0, .int 0, .int 0, .ref q_37, .int 0, .ref q_43, .int 0, .ref q_49, .ref q_55, .int (-1), .int 0, .ref q_62, .int 0, .ref q_68, .int 0, .ref q_74, .ref q_80, .ref q_86, .ref q_92, .null, .null, .long 0, .null, .null, .null, .null])) := c_a0
  have hG := hG.set hk (Or.inl rfl)
  have c_q_13 := hk _ _ (nk k_q_13 n_a0) c_q_13
  have c_q_19 := hk _ _ (nk k_q_19 n_a0) c_q_19
  have c_q_25 := hk _ _ (nk k_q_25 n_a0) c_q_25
  have c_q_55 := hk _ _ (nk k_q_55 n_a0) c_q_55
  have c_q_7 := hk _ _ (nk k_q_7 n_a0) c_q_7
  refine lv_aload_n hx hb dX12_init_145 rfl (lv_at hl 0 rfl) ?_
  refine lv_bipush (v := 7) hx hb dX12_init_146 (by decide) ?_
  refine va_newa (D := (dC, dI)) (a0 := (7, .inl (fun _ => 0))) (N' := 7) (ty := .boolean) (atype := .boolean) hx hb (hts _ tw_155) rfl hw.1 hw.2.1 hw.2.2.1 hw.2.2.2.1 hA (fun _ => rfl) (by decide) (by decide) (Nat.le_of_ble_eq_true rfl) (Nat.le_of_ble_eq_true rfl) (Nat.le_of_ble_eq_true rfl) dX12_init_148 (fun q_98 k_99 H hK hP hD hS => ?_)
  have hf := fr_new hD
  have ne_a0_q_98 : a0 ≠ q_98 := fun z => hf _ (z ▸ c_a0)
  obtain ⟨κ_100, hTy, hEx, k_q_98, hno⟩ := newA (k := 70) hw.2.2.2.2 hD (SubT.app (t' := [(k_99, .boolean)])) (fun _ => Or.inr (Or.inl ⟨rfl, k_99, y_96.length, _, at_last, rfl, fun j hj => ⟨(by decide : (-2147483648 : Int) ≤ (0 : Int32).toInt), (by decide : (0 : Int32).toInt ≤ (2147483647 : Int))⟩⟩))
  have hG := hG.newA (w1 := [(q_98, .inl (k_99, 7, .inl (fun _ => 0)))]) hEx hno
  have n_a0 : κ_100 a0 = none := by rw [hno _ _ c_a0]; exact n_a0
  have k_q_1 := hEx _ _ k_q_1
  have k_q_7 := hEx _ _ k_q_7
  have k_q_13 := hEx _ _ k_q_13
  have k_q_19 := hEx _ _ k_q_19
  have k_q_25 := hEx _ _ k_q_25
  have k_q_31 := hEx _ _ k_q_31
  have k_q_37 := hEx _ _ k_q_37
  have k_q_43 := hEx _ _ k_q_43
  have k_q_49 := hEx _ _ k_q_49
  have k_q_55 := hEx _ _ k_q_55
  have k_q_62 := hEx _ _ k_q_62
  have k_q_68 := hEx _ _ k_q_68
  have k_q_74 := hEx _ _ k_q_74
  have k_q_80 := hEx _ _ k_q_80
  have k_q_86 := hEx _ _ k_q_86
  have k_q_92 := hEx _ _ k_q_92
  have c_a0 := c_a0.app (w1 := [(q_98, .inl (k_99, 7, .inl (fun _ => 0)))])
  have c_q_13 := c_q_13.app (w1 := [(q_98, .inl (k_99, 7, .inl (fun _ => 0)))])
  have c_q_19 := c_q_19.app (w1 := [(q_98, .inl (k_99, 7, .inl (fun _ => 0)))])
  have c_q_25 := c_q_25.app (w1 := [(q_98, .inl (k_99, 7, .inl (fun _ => 0)))])
  have c_q_55 := c_q_55.app (w1 := [(q_98, .inl (k_99, 7, .inl (fun _ => 0)))])
  have c_q_7 := c_q_7.app (w1 := [(q_98, .inl (k_99, 7, .inl (fun _ => 0)))])
  have hTs := hTs.trans (SubT.app (t' := [(k_99, .boolean)]))
  have c_q_98 : cAt (w_97 ++ [(q_98, .inl (k_99, 7, .inl (fun _ => 0)))]) q_98 (.inl (k_99, 7, .inl (fun _ => 0))) := cAt_last
  have hw : tW (dC, dI) (y_96 ++ [(k_99, .boolean)]) κ_100 B A s (w_97 ++ [(q_98, .inl (k_99, 7, .inl (fun _ => 0)))]) H locs := ⟨hK, hP, hD, hS, hTy⟩
  clear hf hP hD hS hEx hno hTy hK
  generalize (w_97 ++ [(q_98, .inl (k_99, 7, .inl (fun _ => 0)))]) = w_101 at hw hG c_q_98 c_a0 c_q_13 c_q_19 c_q_25 c_q_55 c_q_7
  generalize (y_96 ++ [(k_99, .boolean)]) = y_102 at hw hTs 
  clear c_q_98
  refine t_putUF (ci := 12) (v := .ref q_98) (C := RX12) (T := TX12) (N := 38) hx hb hts iX12 tyX12 tyX12_ok nmX12 hown hw c_a0 n_a0 rfl 31 (by decide) (hts _ tw_1156) (fun _ h9 => h9) rfl hin rfl (tyX12_ok 31 (by decide)) rfl rfl (Nat.le_of_ble_eq_true rfl) dX12_init_150 (fun w_103 H locs hw hk c_a0 => ?_)
  have c_a0 : cAt w_103 a0 (.inr (12, [.ref q_1, .int 0, .int 0, .ref q_7, .ref q_13, .ref q_19, .ref q_25, .ref q_31, .int 0, .int 0, .int 0, .int 0, .int 0, .int 0, .int 0, .ref q_37, .int 0, .ref q_43, .int 0, .ref q_49, .ref q_55, .int (-1), .int 0, .ref q_62, .int 0, .ref q_68, .int 0, .ref q_74, .ref q_80, .ref q_86, .ref q_92, .ref q_98, .null, .long 0, .null, .null, .null, .null])) := c_a0
  have hG := hG.set hk (Or.inl rfl)
  have c_q_13 := hk _ _ (nk k_q_13 n_a0) c_q_13
  have c_q_19 := hk _ _ (nk k_q_19 n_a0) c_q_19
  have c_q_25 := hk _ _ (nk k_q_25 n_a0) c_q_25
  have c_q_55 := hk _ _ (nk k_q_55 n_a0) c_q_55
  have c_q_7 := hk _ _ (nk k_q_7 n_a0) c_q_7
  refine lv_aload_n hx hb dX12_init_153 rfl (lv_at hl 0 rfl) ?_
  refine lv_sipush (v := 427) hx hb dX12_init_154 (by decide) ?_
  refine va_newa (D := (dC, dI)) (a0 := (427, .inl (fun _ => 0))) (N' := 427) (ty := .int) (atype := .int) hx hb (hts _ tw_154) rfl hw.1 hw.2.1 hw.2.2.1 hw.2.2.2.1 hA (fun _ => rfl) (by decide) (by decide) (Nat.le_of_ble_eq_true rfl) (Nat.le_of_ble_eq_true rfl) (Nat.le_of_ble_eq_true rfl) dX12_init_157 (fun q_104 k_105 H hK hP hD hS => ?_)
  have hf := fr_new hD
  have ne_a0_q_104 : a0 ≠ q_104 := fun z => hf _ (z ▸ c_a0)
  obtain ⟨κ_106, hTy, hEx, k_q_104, hno⟩ := newA (k := 71) hw.2.2.2.2 hD (SubT.app (t' := [(k_105, .int)])) (fun _ => Or.inr (Or.inl ⟨rfl, k_105, y_102.length, _, at_last, rfl, fun j hj => ⟨(by decide : (-2147483648 : Int) ≤ (0 : Int32).toInt), (by decide : (0 : Int32).toInt ≤ (2147483647 : Int))⟩⟩))
  have hG := hG.newA (w1 := [(q_104, .inl (k_105, 427, .inl (fun _ => 0)))]) hEx hno
  have n_a0 : κ_106 a0 = none := by rw [hno _ _ c_a0]; exact n_a0
  have k_q_1 := hEx _ _ k_q_1
  have k_q_7 := hEx _ _ k_q_7
  have k_q_13 := hEx _ _ k_q_13
  have k_q_19 := hEx _ _ k_q_19
  have k_q_25 := hEx _ _ k_q_25
  have k_q_31 := hEx _ _ k_q_31
  have k_q_37 := hEx _ _ k_q_37
  have k_q_43 := hEx _ _ k_q_43
  have k_q_49 := hEx _ _ k_q_49
  have k_q_55 := hEx _ _ k_q_55
  have k_q_62 := hEx _ _ k_q_62
  have k_q_68 := hEx _ _ k_q_68
  have k_q_74 := hEx _ _ k_q_74
  have k_q_80 := hEx _ _ k_q_80
  have k_q_86 := hEx _ _ k_q_86
  have k_q_92 := hEx _ _ k_q_92
  have k_q_98 := hEx _ _ k_q_98
  have c_a0 := c_a0.app (w1 := [(q_104, .inl (k_105, 427, .inl (fun _ => 0)))])
  have c_q_13 := c_q_13.app (w1 := [(q_104, .inl (k_105, 427, .inl (fun _ => 0)))])
  have c_q_19 := c_q_19.app (w1 := [(q_104, .inl (k_105, 427, .inl (fun _ => 0)))])
  have c_q_25 := c_q_25.app (w1 := [(q_104, .inl (k_105, 427, .inl (fun _ => 0)))])
  have c_q_55 := c_q_55.app (w1 := [(q_104, .inl (k_105, 427, .inl (fun _ => 0)))])
  have c_q_7 := c_q_7.app (w1 := [(q_104, .inl (k_105, 427, .inl (fun _ => 0)))])
  have hTs := hTs.trans (SubT.app (t' := [(k_105, .int)]))
  have c_q_104 : cAt (w_103 ++ [(q_104, .inl (k_105, 427, .inl (fun _ => 0)))]) q_104 (.inl (k_105, 427, .inl (fun _ => 0))) := cAt_last
  have hw : tW (dC, dI) (y_102 ++ [(k_105, .int)]) κ_106 B A s (w_103 ++ [(q_104, .inl (k_105, 427, .inl (fun _ => 0)))]) H locs := ⟨hK, hP, hD, hS, hTy⟩
  clear hf hP hD hS hEx hno hTy hK
  generalize (w_103 ++ [(q_104, .inl (k_105, 427, .inl (fun _ => 0)))]) = w_107 at hw hG c_q_104 c_a0 c_q_13 c_q_19 c_q_25 c_q_55 c_q_7
  generalize (y_102 ++ [(k_105, .int)]) = y_108 at hw hTs 
  clear c_q_104
  refine t_putUF (ci := 12) (v := .ref q_104) (C := RX12) (T := TX12) (N := 38) hx hb hts iX12 tyX12 tyX12_ok nmX12 hown hw c_a0 n_a0 rfl 32 (by decide) (hts _ tw_1157) (fun _ h9 => h9) rfl hin rfl (tyX12_ok 32 (by decide)) rfl rfl (Nat.le_of_ble_eq_true rfl) dX12_init_159 (fun w_109 H locs hw hk c_a0 => ?_)
  have c_a0 : cAt w_109 a0 (.inr (12, [.ref q_1, .int 0, .int 0, .ref q_7, .ref q_13, .ref q_19, .ref q_25, .ref q_31, .int 0, .int 0, .int 0, .int 0, .int 0, .int 0, .int 0, .ref q_37, .int 0, .ref q_43, .int 0, .ref q_49, .ref q_55, .int (-1), .int 0, .ref q_62, .int 0, .ref q_68, .int 0, .ref q_74, .ref q_80, .ref q_86, .ref q_92, .ref q_98, .ref q_104, .long 0, .null, .null, .null, .null])) := c_a0
  have hG := hG.set hk (Or.inl rfl)
  have c_q_13 := hk _ _ (nk k_q_13 n_a0) c_q_13
  have c_q_19 := hk _ _ (nk k_q_19 n_a0) c_q_19
  have c_q_25 := hk _ _ (nk k_q_25 n_a0) c_q_25
  have c_q_55 := hk _ _ (nk k_q_55 n_a0) c_q_55
  have c_q_7 := hk _ _ (nk k_q_7 n_a0) c_q_7
  refine lv_aload_n hx hb dX12_init_162 rfl (lv_at hl 0 rfl) ?_
  refine lv_sipush (v := 1224) hx hb dX12_init_163 (by decide) ?_
  refine va_newa (D := (dC, dI)) (a0 := (1224, .inl (fun _ => 0))) (N' := 1224) (ty := .int) (atype := .int) hx hb (hts _ tw_154) rfl hw.1 hw.2.1 hw.2.2.1 hw.2.2.2.1 hA (fun _ => rfl) (by decide) (by decide) (Nat.le_of_ble_eq_true rfl) (Nat.le_of_ble_eq_true rfl) (Nat.le_of_ble_eq_true rfl) dX12_init_166 (fun q_110 k_111 H hK hP hD hS => ?_)
  have hf := fr_new hD
  have ne_a0_q_110 : a0 ≠ q_110 := fun z => hf _ (z ▸ c_a0)
  obtain ⟨κ_112, hTy, hEx, k_q_110, hno⟩ := newA (k := 72) hw.2.2.2.2 hD (SubT.app (t' := [(k_111, .int)])) (fun _ => Or.inr (Or.inl ⟨rfl, k_111, y_108.length, _, at_last, rfl, fun j hj => by rw [aiv_images]; exact ivS_z (by decide) _⟩))
  have hG := hG.newA (w1 := [(q_110, .inl (k_111, 1224, .inl (fun _ => 0)))]) hEx hno
  have n_a0 : κ_112 a0 = none := by rw [hno _ _ c_a0]; exact n_a0
  have k_q_1 := hEx _ _ k_q_1
  have k_q_7 := hEx _ _ k_q_7
  have k_q_13 := hEx _ _ k_q_13
  have k_q_19 := hEx _ _ k_q_19
  have k_q_25 := hEx _ _ k_q_25
  have k_q_31 := hEx _ _ k_q_31
  have k_q_37 := hEx _ _ k_q_37
  have k_q_43 := hEx _ _ k_q_43
  have k_q_49 := hEx _ _ k_q_49
  have k_q_55 := hEx _ _ k_q_55
  have k_q_62 := hEx _ _ k_q_62
  have k_q_68 := hEx _ _ k_q_68
  have k_q_74 := hEx _ _ k_q_74
  have k_q_80 := hEx _ _ k_q_80
  have k_q_86 := hEx _ _ k_q_86
  have k_q_92 := hEx _ _ k_q_92
  have k_q_98 := hEx _ _ k_q_98
  have k_q_104 := hEx _ _ k_q_104
  have c_a0 := c_a0.app (w1 := [(q_110, .inl (k_111, 1224, .inl (fun _ => 0)))])
  have c_q_13 := c_q_13.app (w1 := [(q_110, .inl (k_111, 1224, .inl (fun _ => 0)))])
  have c_q_19 := c_q_19.app (w1 := [(q_110, .inl (k_111, 1224, .inl (fun _ => 0)))])
  have c_q_25 := c_q_25.app (w1 := [(q_110, .inl (k_111, 1224, .inl (fun _ => 0)))])
  have c_q_55 := c_q_55.app (w1 := [(q_110, .inl (k_111, 1224, .inl (fun _ => 0)))])
  have c_q_7 := c_q_7.app (w1 := [(q_110, .inl (k_111, 1224, .inl (fun _ => 0)))])
  have hTs := hTs.trans (SubT.app (t' := [(k_111, .int)]))
  have c_q_110 : cAt (w_109 ++ [(q_110, .inl (k_111, 1224, .inl (fun _ => 0)))]) q_110 (.inl (k_111, 1224, .inl (fun _ => 0))) := cAt_last
  have hw : tW (dC, dI) (y_108 ++ [(k_111, .int)]) κ_112 B A s (w_109 ++ [(q_110, .inl (k_111, 1224, .inl (fun _ => 0)))]) H locs := ⟨hK, hP, hD, hS, hTy⟩
  clear hf hP hD hS hEx hno hTy hK
  generalize (w_109 ++ [(q_110, .inl (k_111, 1224, .inl (fun _ => 0)))]) = w_113 at hw hG c_q_110 c_a0 c_q_13 c_q_19 c_q_25 c_q_55 c_q_7
  generalize (y_108 ++ [(k_111, .int)]) = y_114 at hw hTs 
  clear c_q_110
  refine t_putUF (ci := 12) (v := .ref q_110) (C := RX12) (T := TX12) (N := 38) hx hb hts iX12 tyX12 tyX12_ok nmX12 hown hw c_a0 n_a0 rfl 34 (by decide) (hts _ tw_1159) (fun _ h9 => h9) rfl hin rfl (tyX12_ok 34 (by decide)) rfl rfl (Nat.le_of_ble_eq_true rfl) dX12_init_168 (fun w_115 H locs hw hk c_a0 => ?_)
  have c_a0 : cAt w_115 a0 (.inr (12, [.ref q_1, .int 0, .int 0, .ref q_7, .ref q_13, .ref q_19, .ref q_25, .ref q_31, .int 0, .int 0, .int 0, .int 0, .int 0, .int 0, .int 0, .ref q_37, .int 0, .ref q_43, .int 0, .ref q_49, .ref q_55, .int (-1), .int 0, .ref q_62, .int 0, .ref q_68, .int 0, .ref q_74, .ref q_80, .ref q_86, .ref q_92, .ref q_98, .ref q_104, .long 0, .ref q_110, .null, .null, .null])) := c_a0
  have hG := hG.set hk (Or.inl rfl)
  have c_q_13 := hk _ _ (nk k_q_13 n_a0) c_q_13
  have c_q_19 := hk _ _ (nk k_q_19 n_a0) c_q_19
  have c_q_25 := hk _ _ (nk k_q_25 n_a0) c_q_25
  have c_q_55 := hk _ _ (nk k_q_55 n_a0) c_q_55
  have c_q_7 := hk _ _ (nk k_q_7 n_a0) c_q_7
  refine lv_aload_n hx hb dX12_init_171 rfl (lv_at hl 0 rfl) ?_
  refine lv_iconst (v := 4) hx hb dX12_init_172 (by decide) ?_
  refine va_newa (D := (dC, dI)) (a0 := (4, .inl (fun _ => 0))) (N' := 4) (ty := .int) (atype := .int) hx hb (hts _ tw_154) rfl hw.1 hw.2.1 hw.2.2.1 hw.2.2.2.1 hA (fun _ => rfl) (by decide) (by decide) (Nat.le_of_ble_eq_true rfl) (Nat.le_of_ble_eq_true rfl) (Nat.le_of_ble_eq_true rfl) dX12_init_173 (fun q_116 k_117 H hK hP hD hS => ?_)
  have hf := fr_new hD
  have ne_a0_q_116 : a0 ≠ q_116 := fun z => hf _ (z ▸ c_a0)
  obtain ⟨κ_118, hTy, hEx, k_q_116, hno⟩ := newA (k := 73) hw.2.2.2.2 hD (SubT.app (t' := [(k_117, .int)])) (fun _ => Or.inr (Or.inl ⟨rfl, k_117, y_114.length, _, at_last, rfl, fun j hj => ⟨(by decide : (-1 : Int) ≤ (0 : Int32).toInt), (by decide : (0 : Int32).toInt ≤ (5 : Int))⟩⟩))
  have hG := hG.newA (w1 := [(q_116, .inl (k_117, 4, .inl (fun _ => 0)))]) hEx hno
  have n_a0 : κ_118 a0 = none := by rw [hno _ _ c_a0]; exact n_a0
  have k_q_1 := hEx _ _ k_q_1
  have k_q_7 := hEx _ _ k_q_7
  have k_q_13 := hEx _ _ k_q_13
  have k_q_19 := hEx _ _ k_q_19
  have k_q_25 := hEx _ _ k_q_25
  have k_q_31 := hEx _ _ k_q_31
  have k_q_37 := hEx _ _ k_q_37
  have k_q_43 := hEx _ _ k_q_43
  have k_q_49 := hEx _ _ k_q_49
  have k_q_55 := hEx _ _ k_q_55
  have k_q_62 := hEx _ _ k_q_62
  have k_q_68 := hEx _ _ k_q_68
  have k_q_74 := hEx _ _ k_q_74
  have k_q_80 := hEx _ _ k_q_80
  have k_q_86 := hEx _ _ k_q_86
  have k_q_92 := hEx _ _ k_q_92
  have k_q_98 := hEx _ _ k_q_98
  have k_q_104 := hEx _ _ k_q_104
  have k_q_110 := hEx _ _ k_q_110
  have c_a0 := c_a0.app (w1 := [(q_116, .inl (k_117, 4, .inl (fun _ => 0)))])
  have c_q_13 := c_q_13.app (w1 := [(q_116, .inl (k_117, 4, .inl (fun _ => 0)))])
  have c_q_19 := c_q_19.app (w1 := [(q_116, .inl (k_117, 4, .inl (fun _ => 0)))])
  have c_q_25 := c_q_25.app (w1 := [(q_116, .inl (k_117, 4, .inl (fun _ => 0)))])
  have c_q_55 := c_q_55.app (w1 := [(q_116, .inl (k_117, 4, .inl (fun _ => 0)))])
  have c_q_7 := c_q_7.app (w1 := [(q_116, .inl (k_117, 4, .inl (fun _ => 0)))])
  have hTs := hTs.trans (SubT.app (t' := [(k_117, .int)]))
  have c_q_116 : cAt (w_115 ++ [(q_116, .inl (k_117, 4, .inl (fun _ => 0)))]) q_116 (.inl (k_117, 4, .inl (fun _ => 0))) := cAt_last
  have hw : tW (dC, dI) (y_114 ++ [(k_117, .int)]) κ_118 B A s (w_115 ++ [(q_116, .inl (k_117, 4, .inl (fun _ => 0)))]) H locs := ⟨hK, hP, hD, hS, hTy⟩
  clear hf hP hD hS hEx hno hTy hK
  generalize (w_115 ++ [(q_116, .inl (k_117, 4, .inl (fun _ => 0)))]) = w_119 at hw hG c_q_116 c_a0 c_q_13 c_q_19 c_q_25 c_q_55 c_q_7
  generalize (y_114 ++ [(k_117, .int)]) = y_120 at hw hTs 
  clear c_q_116
  refine t_putUF (ci := 12) (v := .ref q_116) (C := RX12) (T := TX12) (N := 38) hx hb hts iX12 tyX12 tyX12_ok nmX12 hown hw c_a0 n_a0 rfl 35 (by decide) (hts _ tw_1160) (fun _ h9 => h9) rfl hin rfl (tyX12_ok 35 (by decide)) rfl rfl (Nat.le_of_ble_eq_true rfl) dX12_init_175 (fun w_121 H locs hw hk c_a0 => ?_)
  have c_a0 : cAt w_121 a0 (.inr (12, [.ref q_1, .int 0, .int 0, .ref q_7, .ref q_13, .ref q_19, .ref q_25, .ref q_31, .int 0, .int 0, .int 0, .int 0, .int 0, .int 0, .int 0, .ref q_37, .int 0, .ref q_43, .int 0, .ref q_49, .ref q_55, .int (-1), .int 0, .ref q_62, .int 0, .ref q_68, .int 0, .ref q_74, .ref q_80, .ref q_86, .ref q_92, .ref q_98, .ref q_104, .long 0, .ref q_110, .ref q_116, .null, .null])) := c_a0
  have hG := hG.set hk (Or.inl rfl)
  have c_q_13 := hk _ _ (nk k_q_13 n_a0) c_q_13
  have c_q_19 := hk _ _ (nk k_q_19 n_a0) c_q_19
  have c_q_25 := hk _ _ (nk k_q_25 n_a0) c_q_25
  have c_q_55 := hk _ _ (nk k_q_55 n_a0) c_q_55
  have c_q_7 := hk _ _ (nk k_q_7 n_a0) c_q_7
  refine lv_aload_n hx hb dX12_init_178 rfl (lv_at hl 0 rfl) ?_
  refine lv_iconst (v := 4) hx hb dX12_init_179 (by decide) ?_
  refine va_newa (D := (dC, dI)) (a0 := (4, .inl (fun _ => 0))) (N' := 4) (ty := .int) (atype := .int) hx hb (hts _ tw_154) rfl hw.1 hw.2.1 hw.2.2.1 hw.2.2.2.1 hA (fun _ => rfl) (by decide) (by decide) (Nat.le_of_ble_eq_true rfl) (Nat.le_of_ble_eq_true rfl) (Nat.le_of_ble_eq_true rfl) dX12_init_180 (fun q_122 k_123 H hK hP hD hS => ?_)
  have hf := fr_new hD
  have ne_a0_q_122 : a0 ≠ q_122 := fun z => hf _ (z ▸ c_a0)
  obtain ⟨κ_124, hTy, hEx, k_q_122, hno⟩ := newA (k := 74) hw.2.2.2.2 hD (SubT.app (t' := [(k_123, .int)])) (fun _ => Or.inr (Or.inl ⟨rfl, k_123, y_120.length, _, at_last, rfl, fun j hj => ⟨(by decide : (-2147483648 : Int) ≤ (0 : Int32).toInt), (by decide : (0 : Int32).toInt ≤ (2147483647 : Int))⟩⟩))
  have hG := hG.newA (w1 := [(q_122, .inl (k_123, 4, .inl (fun _ => 0)))]) hEx hno
  have n_a0 : κ_124 a0 = none := by rw [hno _ _ c_a0]; exact n_a0
  have k_q_1 := hEx _ _ k_q_1
  have k_q_7 := hEx _ _ k_q_7
  have k_q_13 := hEx _ _ k_q_13
  have k_q_19 := hEx _ _ k_q_19
  have k_q_25 := hEx _ _ k_q_25
  have k_q_31 := hEx _ _ k_q_31
  have k_q_37 := hEx _ _ k_q_37
  have k_q_43 := hEx _ _ k_q_43
  have k_q_49 := hEx _ _ k_q_49
  have k_q_55 := hEx _ _ k_q_55
  have k_q_62 := hEx _ _ k_q_62
  have k_q_68 := hEx _ _ k_q_68
  have k_q_74 := hEx _ _ k_q_74
  have k_q_80 := hEx _ _ k_q_80
  have k_q_86 := hEx _ _ k_q_86
  have k_q_92 := hEx _ _ k_q_92
  have k_q_98 := hEx _ _ k_q_98
  have k_q_104 := hEx _ _ k_q_104
  have k_q_110 := hEx _ _ k_q_110
  have k_q_116 := hEx _ _ k_q_116
  have c_a0 := c_a0.app (w1 := [(q_122, .inl (k_123, 4, .inl (fun _ => 0)))])
  have c_q_13 := c_q_13.app (w1 := [(q_122, .inl (k_123, 4, .inl (fun _ => 0)))])
  have c_q_19 := c_q_19.app (w1 := [(q_122, .inl (k_123, 4, .inl (fun _ => 0)))])
  have c_q_25 := c_q_25.app (w1 := [(q_122, .inl (k_123, 4, .inl (fun _ => 0)))])
  have c_q_55 := c_q_55.app (w1 := [(q_122, .inl (k_123, 4, .inl (fun _ => 0)))])
  have c_q_7 := c_q_7.app (w1 := [(q_122, .inl (k_123, 4, .inl (fun _ => 0)))])
  have hTs := hTs.trans (SubT.app (t' := [(k_123, .int)]))
  have c_q_122 : cAt (w_121 ++ [(q_122, .inl (k_123, 4, .inl (fun _ => 0)))]) q_122 (.inl (k_123, 4, .inl (fun _ => 0))) := cAt_last
  have hw : tW (dC, dI) (y_120 ++ [(k_123, .int)]) κ_124 B A s (w_121 ++ [(q_122, .inl (k_123, 4, .inl (fun _ => 0)))]) H locs := ⟨hK, hP, hD, hS, hTy⟩
  clear hf hP hD hS hEx hno hTy hK
  generalize (w_121 ++ [(q_122, .inl (k_123, 4, .inl (fun _ => 0)))]) = w_125 at hw hG c_q_122 c_a0 c_q_13 c_q_19 c_q_25 c_q_55 c_q_7
  generalize (y_120 ++ [(k_123, .int)]) = y_126 at hw hTs 
  refine t_putUF (ci := 12) (v := .ref q_122) (C := RX12) (T := TX12) (N := 38) hx hb hts iX12 tyX12 tyX12_ok nmX12 hown hw c_a0 n_a0 rfl 36 (by decide) (hts _ tw_1161) (fun _ h9 => h9) rfl hin rfl (tyX12_ok 36 (by decide)) rfl rfl (Nat.le_of_ble_eq_true rfl) dX12_init_182 (fun w_127 H locs hw hk c_a0 => ?_)
  have c_a0 : cAt w_127 a0 (.inr (12, [.ref q_1, .int 0, .int 0, .ref q_7, .ref q_13, .ref q_19, .ref q_25, .ref q_31, .int 0, .int 0, .int 0, .int 0, .int 0, .int 0, .int 0, .ref q_37, .int 0, .ref q_43, .int 0, .ref q_49, .ref q_55, .int (-1), .int 0, .ref q_62, .int 0, .ref q_68, .int 0, .ref q_74, .ref q_80, .ref q_86, .ref q_92, .ref q_98, .ref q_104, .long 0, .ref q_110, .ref q_116, .ref q_122, .null])) := c_a0
  have hG := hG.set hk (Or.inl rfl)
  have c_q_122 := hk _ _ (nk k_q_122 n_a0) c_q_122
  have c_q_13 := hk _ _ (nk k_q_13 n_a0) c_q_13
  have c_q_19 := hk _ _ (nk k_q_19 n_a0) c_q_19
  have c_q_25 := hk _ _ (nk k_q_25 n_a0) c_q_25
  have c_q_55 := hk _ _ (nk k_q_55 n_a0) c_q_55
  have c_q_7 := hk _ _ (nk k_q_7 n_a0) c_q_7
  refine lv_aload_n hx hb dX12_init_185 rfl (lv_at hl 0 rfl) ?_
  refine lv_iconst (v := 4) hx hb dX12_init_186 (by decide) ?_
  refine va_newa (D := (dC, dI)) (a0 := (4, .inl (fun _ => 0))) (N' := 4) (ty := .boolean) (atype := .boolean) hx hb (hts _ tw_155) rfl hw.1 hw.2.1 hw.2.2.1 hw.2.2.2.1 hA (fun _ => rfl) (by decide) (by decide) (Nat.le_of_ble_eq_true rfl) (Nat.le_of_ble_eq_true rfl) (Nat.le_of_ble_eq_true rfl) dX12_init_187 (fun q_128 k_129 H hK hP hD hS => ?_)
  have hf := fr_new hD
  have ne_a0_q_128 : a0 ≠ q_128 := fun z => hf _ (z ▸ c_a0)
  obtain ⟨κ_130, hTy, hEx, k_q_128, hno⟩ := newA (k := 75) hw.2.2.2.2 hD (SubT.app (t' := [(k_129, .boolean)])) (fun _ => Or.inr (Or.inl ⟨rfl, k_129, y_126.length, _, at_last, rfl, fun j hj => ⟨(by decide : (-2147483648 : Int) ≤ (0 : Int32).toInt), (by decide : (0 : Int32).toInt ≤ (2147483647 : Int))⟩⟩))
  have hG := hG.newA (w1 := [(q_128, .inl (k_129, 4, .inl (fun _ => 0)))]) hEx hno
  have n_a0 : κ_130 a0 = none := by rw [hno _ _ c_a0]; exact n_a0
  have k_q_1 := hEx _ _ k_q_1
  have k_q_7 := hEx _ _ k_q_7
  have k_q_13 := hEx _ _ k_q_13
  have k_q_19 := hEx _ _ k_q_19
  have k_q_25 := hEx _ _ k_q_25
  have k_q_31 := hEx _ _ k_q_31
  have k_q_37 := hEx _ _ k_q_37
  have k_q_43 := hEx _ _ k_q_43
  have k_q_49 := hEx _ _ k_q_49
  have k_q_55 := hEx _ _ k_q_55
  have k_q_62 := hEx _ _ k_q_62
  have k_q_68 := hEx _ _ k_q_68
  have k_q_74 := hEx _ _ k_q_74
  have k_q_80 := hEx _ _ k_q_80
  have k_q_86 := hEx _ _ k_q_86
  have k_q_92 := hEx _ _ k_q_92
  have k_q_98 := hEx _ _ k_q_98
  have k_q_104 := hEx _ _ k_q_104
  have k_q_110 := hEx _ _ k_q_110
  have k_q_116 := hEx _ _ k_q_116
  have k_q_122 := hEx _ _ k_q_122
  have c_a0 := c_a0.app (w1 := [(q_128, .inl (k_129, 4, .inl (fun _ => 0)))])
  have c_q_122 := c_q_122.app (w1 := [(q_128, .inl (k_129, 4, .inl (fun _ => 0)))])
  have c_q_13 := c_q_13.app (w1 := [(q_128, .inl (k_129, 4, .inl (fun _ => 0)))])
  have c_q_19 := c_q_19.app (w1 := [(q_128, .inl (k_129, 4, .inl (fun _ => 0)))])
  have c_q_25 := c_q_25.app (w1 := [(q_128, .inl (k_129, 4, .inl (fun _ => 0)))])
  have c_q_55 := c_q_55.app (w1 := [(q_128, .inl (k_129, 4, .inl (fun _ => 0)))])
  have c_q_7 := c_q_7.app (w1 := [(q_128, .inl (k_129, 4, .inl (fun _ => 0)))])
  have hTs := hTs.trans (SubT.app (t' := [(k_129, .boolean)]))
  have c_q_128 : cAt (w_127 ++ [(q_128, .inl (k_129, 4, .inl (fun _ => 0)))]) q_128 (.inl (k_129, 4, .inl (fun _ => 0))) := cAt_last
  have hw : tW (dC, dI) (y_126 ++ [(k_129, .boolean)]) κ_130 B A s (w_127 ++ [(q_128, .inl (k_129, 4, .inl (fun _ => 0)))]) H locs := ⟨hK, hP, hD, hS, hTy⟩
  clear hf hP hD hS hEx hno hTy hK
  generalize (w_127 ++ [(q_128, .inl (k_129, 4, .inl (fun _ => 0)))]) = w_131 at hw hG c_q_128 c_a0 c_q_122 c_q_13 c_q_19 c_q_25 c_q_55 c_q_7
  generalize (y_126 ++ [(k_129, .boolean)]) = y_132 at hw hTs 
  refine t_putUF (ci := 12) (v := .ref q_128) (C := RX12) (T := TX12) (N := 38) hx hb hts iX12 tyX12 tyX12_ok nmX12 hown hw c_a0 n_a0 rfl 37 (by decide) (hts _ tw_1162) (fun _ h9 => h9) rfl hin rfl (tyX12_ok 37 (by decide)) rfl rfl (Nat.le_of_ble_eq_true rfl) dX12_init_189 (fun w_133 H locs hw hk c_a0 => ?_)
  have c_a0 : cAt w_133 a0 (.inr (12, [.ref q_1, .int 0, .int 0, .ref q_7, .ref q_13, .ref q_19, .ref q_25, .ref q_31, .int 0, .int 0, .int 0, .int 0, .int 0, .int 0, .int 0, .ref q_37, .int 0, .ref q_43, .int 0, .ref q_49, .ref q_55, .int (-1), .int 0, .ref q_62, .int 0, .ref q_68, .int 0, .ref q_74, .ref q_80, .ref q_86, .ref q_92, .ref q_98, .ref q_104, .long 0, .ref q_110, .ref q_116, .ref q_122, .ref q_128])) := c_a0
  have hG := hG.set hk (Or.inl rfl)
  have c_q_122 := hk _ _ (nk k_q_122 n_a0) c_q_122
  have c_q_128 := hk _ _ (nk k_q_128 n_a0) c_q_128
  have c_q_13 := hk _ _ (nk k_q_13 n_a0) c_q_13
  have c_q_19 := hk _ _ (nk k_q_19 n_a0) c_q_19
  have c_q_25 := hk _ _ (nk k_q_25 n_a0) c_q_25
  have c_q_55 := hk _ _ (nk k_q_55 n_a0) c_q_55
  have c_q_7 := hk _ _ (nk k_q_7 n_a0) c_q_7
  have hok : okE (kap κ_130 [(a0, 12)]) y_132 B 12 (.inr (12, [.ref q_1, .int 0, .int 0, .ref q_7, .ref q_13, .ref q_19, .ref q_25, .ref q_31, .int 0, .int 0, .int 0, .int 0, .int 0, .int 0, .int 0, .ref q_37, .int 0, .ref q_43, .int 0, .ref q_49, .ref q_55, .int (-1), .int 0, .ref q_62, .int 0, .ref q_68, .int 0, .ref q_74, .ref q_80, .ref q_86, .ref q_92, .ref q_98, .ref q_104, .long 0, .ref q_110, .ref q_116, .ref q_122, .ref q_128])) := by
    refine Or.inl ⟨rfl, _, rfl, rfl, fun j y hy => ?_⟩
    match j, hy with
    | 0, hy => cases hy; exact okV.ref (k := 54) rfl (typeE n_a0 _ _ k_q_1)
    | 1, hy => cases hy; exact okV.int rfl (by decide) (by decide)
    | 2, hy => cases hy; exact okV.int rfl (by decide) (by decide)
    | 3, hy => cases hy; exact okV.ref (k := 55) rfl (typeE n_a0 _ _ k_q_7)
    | 4, hy => cases hy; exact okV.ref (k := 56) rfl (typeE n_a0 _ _ k_q_13)
    | 5, hy => cases hy; exact okV.ref (k := 57) rfl (typeE n_a0 _ _ k_q_19)
    | 6, hy => cases hy; exact okV.ref (k := 58) rfl (typeE n_a0 _ _ k_q_25)
    | 7, hy => cases hy; exact okV.ref (k := 59) rfl (typeE n_a0 _ _ k_q_31)
    | 8, hy => cases hy; exact okV.int rfl (by decide) (by decide)
    | 9, hy => cases hy; exact okV.int rfl (by decide) (by decide)
    | 10, hy => cases hy; exact okV.int rfl (by decide) (by decide)
    | 11, hy => cases hy; exact okV.int rfl (by decide) (by decide)
    | 12, hy => cases hy; exact okV.int rfl (by decide) (by decide)
    | 13, hy => cases hy; exact okV.int rfl (by decide) (by decide)
    | 14, hy => cases hy; exact okV.int rfl (by decide) (by decide)
    | 15, hy => cases hy; exact okV.ref (k := 60) rfl (typeE n_a0 _ _ k_q_37)
    | 16, hy => cases hy; exact okV.int rfl (by decide) (by decide)
    | 17, hy => cases hy; exact okV.ref (k := 61) rfl (typeE n_a0 _ _ k_q_43)
    | 18, hy => cases hy; exact okV.int rfl (by decide) (by decide)
    | 19, hy => cases hy; exact okV.ref (k := 62) rfl (typeE n_a0 _ _ k_q_49)
    | 20, hy => cases hy; exact okV.ref (k := 63) rfl (typeE n_a0 _ _ k_q_55)
    | 21, hy => cases hy; exact okV.int rfl (by decide) (by decide)
    | 22, hy => cases hy; exact okV.int rfl (by decide) (by decide)
    | 23, hy => cases hy; exact okV.ref (k := 64) rfl (typeE n_a0 _ _ k_q_62)
    | 24, hy => cases hy; exact okV.int rfl (by decide) (by decide)
    | 25, hy => cases hy; exact okV.ref (k := 65) rfl (typeE n_a0 _ _ k_q_68)
    | 26, hy => cases hy; exact okV.int rfl (by decide) (by decide)
    | 27, hy => cases hy; exact okV.ref (k := 66) rfl (typeE n_a0 _ _ k_q_74)
    | 28, hy => cases hy; exact okV.ref (k := 67) rfl (typeE n_a0 _ _ k_q_80)
    | 29, hy => cases hy; exact okV.ref (k := 68) rfl (typeE n_a0 _ _ k_q_86)
    | 30, hy => cases hy; exact okV.ref (k := 69) rfl (typeE n_a0 _ _ k_q_92)
    | 31, hy => cases hy; exact okV.ref (k := 70) rfl (typeE n_a0 _ _ k_q_98)
    | 32, hy => cases hy; exact okV.ref (k := 71) rfl (typeE n_a0 _ _ k_q_104)
    | 33, hy => cases hy; exact okV.long rfl
    | 34, hy => cases hy; exact okV.ref (k := 72) rfl (typeE n_a0 _ _ k_q_110)
    | 35, hy => cases hy; exact okV.ref (k := 73) rfl (typeE n_a0 _ _ k_q_116)
    | 36, hy => cases hy; exact okV.ref (k := 74) rfl (typeE n_a0 _ _ k_q_122)
    | 37, hy => cases hy; exact okV.ref (k := 75) rfl (typeE n_a0 _ _ k_q_128)
    | j + 38, hy => simp at hy
  have hTy := typeO (k := 12) hw.2.2.2.2 n_a0 c_a0 hok
  clear hok
  have hw : tW (dC, dI) y_132 (kap κ_130 [(a0, 12)]) B A s w_133 H locs := ⟨hw.1, hw.2.1, hw.2.2.1, hw.2.2.2.1, hTy⟩
  clear hTy
  have hG := hG.typ (k := 12) n_a0
  have k_q_1 := typeE (a := a0) (k := 12) n_a0 _ _ k_q_1
  have k_q_7 := typeE (a := a0) (k := 12) n_a0 _ _ k_q_7
  have k_q_13 := typeE (a := a0) (k := 12) n_a0 _ _ k_q_13
  have k_q_19 := typeE (a := a0) (k := 12) n_a0 _ _ k_q_19
  have k_q_25 := typeE (a := a0) (k := 12) n_a0 _ _ k_q_25
  have k_q_31 := typeE (a := a0) (k := 12) n_a0 _ _ k_q_31
  have k_q_37 := typeE (a := a0) (k := 12) n_a0 _ _ k_q_37
  have k_q_43 := typeE (a := a0) (k := 12) n_a0 _ _ k_q_43
  have k_q_49 := typeE (a := a0) (k := 12) n_a0 _ _ k_q_49
  have k_q_55 := typeE (a := a0) (k := 12) n_a0 _ _ k_q_55
  have k_q_62 := typeE (a := a0) (k := 12) n_a0 _ _ k_q_62
  have k_q_68 := typeE (a := a0) (k := 12) n_a0 _ _ k_q_68
  have k_q_74 := typeE (a := a0) (k := 12) n_a0 _ _ k_q_74
  have k_q_80 := typeE (a := a0) (k := 12) n_a0 _ _ k_q_80
  have k_q_86 := typeE (a := a0) (k := 12) n_a0 _ _ k_q_86
  have k_q_92 := typeE (a := a0) (k := 12) n_a0 _ _ k_q_92
  have k_q_98 := typeE (a := a0) (k := 12) n_a0 _ _ k_q_98
  have k_q_104 := typeE (a := a0) (k := 12) n_a0 _ _ k_q_104
  have k_q_110 := typeE (a := a0) (k := 12) n_a0 _ _ k_q_110
  have k_q_116 := typeE (a := a0) (k := 12) n_a0 _ _ k_q_116
  have k_q_122 := typeE (a := a0) (k := 12) n_a0 _ _ k_q_122
  have k_q_128 := typeE (a := a0) (k := 12) n_a0 _ _ k_q_128
  have k_a0 : (kap κ_130 [(a0, 12)]) a0 = some 12 := typeK
  clear n_a0
  generalize (kap κ_130 [(a0, 12)]) = κ_134 at hw hG k_q_1 k_q_7 k_q_13 k_q_19 k_q_25 k_q_31 k_q_37 k_q_43 k_q_49 k_q_55 k_q_62 k_q_68 k_q_74 k_q_80 k_q_86 k_q_92 k_q_98 k_q_104 k_q_110 k_q_116 k_q_122 k_q_128 k_a0
  have hRT : RT κ_134 w_133 a0 := RT_new (c_a0.fld (k := 3) rfl) (c_a0.fld (k := 4) rfl) (c_a0.fld (k := 5) rfl) (c_a0.fld (k := 6) rfl) k_q_7 k_q_13 k_q_19 k_q_25 c_q_7.arr c_q_13.arr c_q_19.arr c_q_25.arr 
  have hMX : MXS κ_134 w_133 a0 0 (fun _ => 0) (fun _ => False) := MXS_new (c_a0.fld (k := 22) rfl) (c_a0.fld (k := 36) rfl) k_q_122 c_q_122.arr (c_a0.fld (k := 37) rfl) k_q_128 c_q_128.arr
  have hDY : DY κ_134 w_133 a0 := ⟨q_55, 0, c_a0.fld (k := 20) rfl, k_q_55, (by obtain ⟨q, cA, n, h1⟩ := c_q_55.arr; exact ⟨q, cA, n, _, h1, rfl⟩), by decide, by decide⟩
  refine W.widen (k := 22) (n := 7170) (Nat.le_of_ble_eq_true rfl) (Nat.le_of_ble_eq_true rfl) ?_
  exact W.vret hx hb hr (fun t ht hW => ⟨⟨(w_133, κ_134, y_132), rfl, ⟨hw.2.2.2.2, hTs, hG, k_a0, hMX, hRT, hDY⟩, by rw [ht]; exact hw.2.1, va_K.moved hW.alike hw.1, hw.2.2.1⟩, hw.2.2.2.1.F ht⟩) hw.2.2.2.1.2.2 dX12_init_192
