theorem ts_0_0 : Cond.selects "BoyBishop$Tape" ⟨"BoyBishop$Tape", "moveTo", "(I)V"⟩ ⟨"BoyBishop$Tape", "moveTo", "(I)V"⟩ ∈ gT := gT_in (List.mem_append_left _ (List.mem_map.mpr ⟨(⟨"BoyBishop$Tape", "moveTo", "(I)V"⟩, 4), (List.mem_append_left _ (List.mem_of_getElem? (i := 0) rfl)), rfl⟩)) rfl
theorem ts_0_1 : Cond.selects "BoyBishop$ChoirReader" ⟨"BoyBishop$ChoirReader", "readClause", "(LBoyBishop$Tape;I)V"⟩ ⟨"BoyBishop$ChoirReader", "readClause", "(LBoyBishop$Tape;I)V"⟩ ∈ gT := gT_in (List.mem_append_left _ (List.mem_map.mpr ⟨(⟨"BoyBishop$ChoirReader", "readClause", "(LBoyBishop$Tape;I)V"⟩, 1), (List.mem_append_left _ (List.mem_of_getElem? (i := 1) rfl)), rfl⟩)) rfl
theorem tw_14 : (Jvm.Cond.initialized "java/util/Arrays") ∈ gT := gT_in (List.mem_append_right _ (List.mem_append_left _ (List.mem_of_getElem? (i := 14) rfl))) rfl
theorem tw_40 : (Jvm.Cond.fieldLink "BoyBishop$ChoirReader" (42 : Nat) "BoyBishop$Tape" "place" "I") ∈ gT := gT_in (List.mem_append_right _ (List.mem_append_left _ (List.mem_of_getElem? (i := 40) rfl))) rfl
theorem tw_41 : (Jvm.Cond.fieldLink "BoyBishop$Tape" (26 : Nat) "BoyBishop$Tape" "place" "I") ∈ gT := gT_in (List.mem_append_right _ (List.mem_append_left _ (List.mem_of_getElem? (i := 41) rfl))) rfl
theorem tw_42 : (Jvm.Cond.fieldLink "BoyBishop$ChoirReader" (30 : Nat) "BoyBishop$Tape" "fault" "I") ∈ gT := gT_in (List.mem_append_right _ (List.mem_append_left _ (List.mem_of_getElem? (i := 42) rfl))) rfl
theorem tw_44 : (Jvm.Cond.fieldLink "BoyBishop$Tape" (19 : Nat) "BoyBishop$Tape" "fault" "I") ∈ gT := gT_in (List.mem_append_right _ (List.mem_append_left _ (List.mem_of_getElem? (i := 44) rfl))) rfl
theorem tw_45 : (Jvm.Cond.fieldLink "BoyBishop" (112 : Nat) "BoyBishop$Tape" "fault" "I") ∈ gT := gT_in (List.mem_append_right _ (List.mem_append_left _ (List.mem_of_getElem? (i := 45) rfl))) rfl
theorem tw_480 : (Jvm.Cond.methodLink "BoyBishop" (108 : Nat) ({ cls := "BoyBishop$ChoirReader", name := "read", desc := "(LBoyBishop$Tape;)LBoyBishop$Choir;" } : Jvm.MethodName)) ∈ gT := gT_in (List.mem_append_right _ (List.mem_append_right _ (List.mem_append_right _ (List.mem_append_left _ (List.mem_of_getElem? (i := 0) rfl))))) rfl
theorem tw_481 : (Jvm.Cond.instanceMethod ({ cls := "BoyBishop$ChoirReader", name := "read", desc := "(LBoyBishop$Tape;)LBoyBishop$Choir;" } : Jvm.MethodName)) ∈ gT := gT_in (List.mem_append_right _ (List.mem_append_right _ (List.mem_append_right _ (List.mem_append_left _ (List.mem_of_getElem? (i := 1) rfl))))) rfl
theorem tw_482 : (Jvm.Cond.selects "BoyBishop$ChoirReader" ({ cls := "BoyBishop$ChoirReader", name := "read", desc := "(LBoyBishop$Tape;)LBoyBishop$Choir;" } : Jvm.MethodName) ({ cls := "BoyBishop$ChoirReader", name := "read", desc := "(LBoyBishop$Tape;)LBoyBishop$Choir;" } : Jvm.MethodName)) ∈ gT := gT_in (List.mem_append_right _ (List.mem_append_right _ (List.mem_append_right _ (List.mem_append_left _ (List.mem_of_getElem? (i := 2) rfl))))) rfl
theorem tw_483 : (Jvm.Cond.code ({ cls := "BoyBishop$ChoirReader", name := "read", desc := "(LBoyBishop$Tape;)LBoyBishop$Choir;" } : Jvm.MethodName) prog_3_method_2_code (3 : Nat) (Option.some (Jvm.ClassFile.FieldType.object "BoyBishop$Choir"))) ∈ gT := gT_in (List.mem_append_right _ (List.mem_append_right _ (List.mem_append_right _ (List.mem_append_left _ (List.mem_of_getElem? (i := 3) rfl))))) rfl
theorem tw_484 : (Jvm.Cond.methodLink "BoyBishop$ChoirReader" (18 : Nat) ({ cls := "BoyBishop$Choir", name := "clear", desc := "()V" } : Jvm.MethodName)) ∈ gT := gT_in (List.mem_append_right _ (List.mem_append_right _ (List.mem_append_right _ (List.mem_append_left _ (List.mem_of_getElem? (i := 4) rfl))))) rfl
theorem tw_485 : (Jvm.Cond.instanceMethod ({ cls := "BoyBishop$Choir", name := "clear", desc := "()V" } : Jvm.MethodName)) ∈ gT := gT_in (List.mem_append_right _ (List.mem_append_right _ (List.mem_append_right _ (List.mem_append_left _ (List.mem_of_getElem? (i := 5) rfl))))) rfl
theorem tw_486 : (Jvm.Cond.selects "BoyBishop$Choir" ({ cls := "BoyBishop$Choir", name := "clear", desc := "()V" } : Jvm.MethodName) ({ cls := "BoyBishop$Choir", name := "clear", desc := "()V" } : Jvm.MethodName)) ∈ gT := gT_in (List.mem_append_right _ (List.mem_append_right _ (List.mem_append_right _ (List.mem_append_left _ (List.mem_of_getElem? (i := 6) rfl))))) rfl
theorem tw_487 : (Jvm.Cond.code ({ cls := "BoyBishop$Choir", name := "clear", desc := "()V" } : Jvm.MethodName) prog_2_method_2_code (2 : Nat) (Option.none : Option Jvm.ClassFile.FieldType)) ∈ gT := gT_in (List.mem_append_right _ (List.mem_append_right _ (List.mem_append_right _ (List.mem_append_left _ (List.mem_of_getElem? (i := 7) rfl))))) rfl
theorem tw_488 : (Jvm.Cond.methodLink "BoyBishop$Choir" (53 : Nat) ({ cls := "java/util/Arrays", name := "fill", desc := "([II)V" } : Jvm.MethodName)) ∈ gT := gT_in (List.mem_append_right _ (List.mem_append_right _ (List.mem_append_right _ (List.mem_append_left _ (List.mem_of_getElem? (i := 8) rfl))))) rfl
theorem tw_489 : (Jvm.Cond.static ({ cls := "java/util/Arrays", name := "fill", desc := "([II)V" } : Jvm.MethodName)) ∈ gT := gT_in (List.mem_append_right _ (List.mem_append_right _ (List.mem_append_right _ (List.mem_append_left _ (List.mem_of_getElem? (i := 9) rfl))))) rfl
theorem tw_490 : (Jvm.Cond.code ({ cls := "java/util/Arrays", name := "fill", desc := "([II)V" } : Jvm.MethodName) prog_21_method_103_code (4 : Nat) (Option.none : Option Jvm.ClassFile.FieldType)) ∈ gT := gT_in (List.mem_append_right _ (List.mem_append_right _ (List.mem_append_right _ (List.mem_append_left _ (List.mem_of_getElem? (i := 10) rfl))))) rfl
theorem tw_491 : (Jvm.Cond.constant "BoyBishop$Choir" (59 : Nat) (1000000 : Int32)) ∈ gT := gT_in (List.mem_append_right _ (List.mem_append_right _ (List.mem_append_right _ (List.mem_append_left _ (List.mem_of_getElem? (i := 11) rfl))))) rfl
theorem tw_492 : (Jvm.Cond.methodLink "BoyBishop$ChoirReader" (21 : Nat) ({ cls := "BoyBishop$Tape", name := "startReading", desc := "()V" } : Jvm.MethodName)) ∈ gT := gT_in (List.mem_append_right _ (List.mem_append_right _ (List.mem_append_right _ (List.mem_append_left _ (List.mem_of_getElem? (i := 12) rfl))))) rfl
theorem tw_493 : (Jvm.Cond.instanceMethod ({ cls := "BoyBishop$Tape", name := "startReading", desc := "()V" } : Jvm.MethodName)) ∈ gT := gT_in (List.mem_append_right _ (List.mem_append_right _ (List.mem_append_right _ (List.mem_append_left _ (List.mem_of_getElem? (i := 13) rfl))))) rfl
theorem tw_494 : (Jvm.Cond.selects "BoyBishop$Tape" ({ cls := "BoyBishop$Tape", name := "startReading", desc := "()V" } : Jvm.MethodName) ({ cls := "BoyBishop$Tape", name := "startReading", desc := "()V" } : Jvm.MethodName)) ∈ gT := gT_in (List.mem_append_right _ (List.mem_append_right _ (List.mem_append_right _ (List.mem_append_left _ (List.mem_of_getElem? (i := 14) rfl))))) rfl
theorem tw_495 : (Jvm.Cond.code ({ cls := "BoyBishop$Tape", name := "startReading", desc := "()V" } : Jvm.MethodName) prog_11_method_4_code (1 : Nat) (Option.none : Option Jvm.ClassFile.FieldType)) ∈ gT := gT_in (List.mem_append_right _ (List.mem_append_right _ (List.mem_append_right _ (List.mem_append_left _ (List.mem_of_getElem? (i := 15) rfl))))) rfl
theorem tw_496 : (Jvm.Cond.methodLink "BoyBishop$Tape" (22 : Nat) ({ cls := "BoyBishop$Tape", name := "moveTo", desc := "(I)V" } : Jvm.MethodName)) ∈ gT := gT_in (List.mem_append_right _ (List.mem_append_right _ (List.mem_append_right _ (List.mem_append_left _ (List.mem_of_getElem? (i := 16) rfl))))) rfl
theorem tw_498 : (Jvm.Cond.instanceMethod ({ cls := "BoyBishop$Tape", name := "moveTo", desc := "(I)V" } : Jvm.MethodName)) ∈ gT := gT_in (List.mem_append_right _ (List.mem_append_right _ (List.mem_append_right _ (List.mem_append_left _ (List.mem_of_getElem? (i := 18) rfl))))) rfl
theorem tw_499 : (Jvm.Cond.code ({ cls := "BoyBishop$Tape", name := "moveTo", desc := "(I)V" } : Jvm.MethodName) prog_11_method_5_code (2 : Nat) (Option.none : Option Jvm.ClassFile.FieldType)) ∈ gT := gT_in (List.mem_append_right _ (List.mem_append_right _ (List.mem_append_right _ (List.mem_append_left _ (List.mem_of_getElem? (i := 19) rfl))))) rfl
theorem tw_500 : (Jvm.Cond.methodLink "BoyBishop$ChoirReader" (26 : Nat) ({ cls := "BoyBishop$ChoirReader", name := "readClause", desc := "(LBoyBishop$Tape;I)V" } : Jvm.MethodName)) ∈ gT := gT_in (List.mem_append_right _ (List.mem_append_right _ (List.mem_append_right _ (List.mem_append_left _ (List.mem_of_getElem? (i := 20) rfl))))) rfl
theorem tw_502 : (Jvm.Cond.instanceMethod ({ cls := "BoyBishop$ChoirReader", name := "readClause", desc := "(LBoyBishop$Tape;I)V" } : Jvm.MethodName)) ∈ gT := gT_in (List.mem_append_right _ (List.mem_append_right _ (List.mem_append_right _ (List.mem_append_left _ (List.mem_of_getElem? (i := 22) rfl))))) rfl
theorem tw_503 : (Jvm.Cond.code ({ cls := "BoyBishop$ChoirReader", name := "readClause", desc := "(LBoyBishop$Tape;I)V" } : Jvm.MethodName) prog_3_method_3_code (5 : Nat) (Option.none : Option Jvm.ClassFile.FieldType)) ∈ gT := gT_in (List.mem_append_right _ (List.mem_append_right _ (List.mem_append_right _ (List.mem_append_left _ (List.mem_of_getElem? (i := 23) rfl))))) rfl
theorem tw_505 : (Jvm.Cond.methodLink "BoyBishop$ChoirReader" (58 : Nat) ({ cls := "BoyBishop$Tape", name := "takeWord", desc := "(Ljava/lang/String;)I" } : Jvm.MethodName)) ∈ gT := gT_in (List.mem_append_right _ (List.mem_append_right _ (List.mem_append_right _ (List.mem_append_left _ (List.mem_of_getElem? (i := 25) rfl))))) rfl
theorem tw_506 : (Jvm.Cond.instanceMethod ({ cls := "BoyBishop$Tape", name := "takeWord", desc := "(Ljava/lang/String;)I" } : Jvm.MethodName)) ∈ gT := gT_in (List.mem_append_right _ (List.mem_append_right _ (List.mem_append_right _ (List.mem_append_left _ (List.mem_of_getElem? (i := 26) rfl))))) rfl
theorem tw_507 : (Jvm.Cond.selects "BoyBishop$Tape" ({ cls := "BoyBishop$Tape", name := "takeWord", desc := "(Ljava/lang/String;)I" } : Jvm.MethodName) ({ cls := "BoyBishop$Tape", name := "takeWord", desc := "(Ljava/lang/String;)I" } : Jvm.MethodName)) ∈ gT := gT_in (List.mem_append_right _ (List.mem_append_right _ (List.mem_append_right _ (List.mem_append_left _ (List.mem_of_getElem? (i := 27) rfl))))) rfl
theorem tw_508 : (Jvm.Cond.code ({ cls := "BoyBishop$Tape", name := "takeWord", desc := "(Ljava/lang/String;)I" } : Jvm.MethodName) prog_11_method_12_code (6 : Nat) (Option.some Jvm.ClassFile.FieldType.int)) ∈ gT := gT_in (List.mem_append_right _ (List.mem_append_right _ (List.mem_append_right _ (List.mem_append_left _ (List.mem_of_getElem? (i := 28) rfl))))) rfl
theorem tw_509 : (Jvm.Cond.methodLink "BoyBishop$Tape" (33 : Nat) ({ cls := "java/lang/String", name := "length", desc := "()I" } : Jvm.MethodName)) ∈ gT := gT_in (List.mem_append_right _ (List.mem_append_right _ (List.mem_append_right _ (List.mem_append_left _ (List.mem_of_getElem? (i := 29) rfl))))) rfl
theorem tw_510 : (Jvm.Cond.instanceMethod ({ cls := "java/lang/String", name := "length", desc := "()I" } : Jvm.MethodName)) ∈ gT := gT_in (List.mem_append_right _ (List.mem_append_right _ (List.mem_append_right _ (List.mem_append_left _ (List.mem_of_getElem? (i := 30) rfl))))) rfl
theorem tw_511 : (Jvm.Cond.selects "java/lang/String" ({ cls := "java/lang/String", name := "length", desc := "()I" } : Jvm.MethodName) ({ cls := "java/lang/String", name := "length", desc := "()I" } : Jvm.MethodName)) ∈ gT := gT_in (List.mem_append_right _ (List.mem_append_right _ (List.mem_append_right _ (List.mem_append_left _ (List.mem_of_getElem? (i := 31) rfl))))) rfl
theorem tw_512 : (Jvm.Cond.code ({ cls := "java/lang/String", name := "length", desc := "()I" } : Jvm.MethodName) prog_17_method_54_code (1 : Nat) (Option.some Jvm.ClassFile.FieldType.int)) ∈ gT := gT_in (List.mem_append_right _ (List.mem_append_right _ (List.mem_append_right _ (List.mem_append_left _ (List.mem_of_getElem? (i := 32) rfl))))) rfl
theorem tw_519 : (Jvm.Cond.methodLink "BoyBishop$Tape" (38 : Nat) ({ cls := "java/lang/String", name := "charAt", desc := "(I)C" } : Jvm.MethodName)) ∈ gT := gT_in (List.mem_append_right _ (List.mem_append_right _ (List.mem_append_right _ (List.mem_append_left _ (List.mem_of_getElem? (i := 39) rfl))))) rfl
theorem tw_520 : (Jvm.Cond.instanceMethod ({ cls := "java/lang/String", name := "charAt", desc := "(I)C" } : Jvm.MethodName)) ∈ gT := gT_in (List.mem_append_right _ (List.mem_append_right _ (List.mem_append_right _ (List.mem_append_left _ (List.mem_of_getElem? (i := 40) rfl))))) rfl
theorem tw_521 : (Jvm.Cond.selects "java/lang/String" ({ cls := "java/lang/String", name := "charAt", desc := "(I)C" } : Jvm.MethodName) ({ cls := "java/lang/String", name := "charAt", desc := "(I)C" } : Jvm.MethodName)) ∈ gT := gT_in (List.mem_append_right _ (List.mem_append_right _ (List.mem_append_right _ (List.mem_append_left _ (List.mem_of_getElem? (i := 41) rfl))))) rfl
theorem tw_522 : (Jvm.Cond.code ({ cls := "java/lang/String", name := "charAt", desc := "(I)C" } : Jvm.MethodName) prog_17_method_56_code (2 : Nat) (Option.some Jvm.ClassFile.FieldType.char)) ∈ gT := gT_in (List.mem_append_right _ (List.mem_append_right _ (List.mem_append_right _ (List.mem_append_left _ (List.mem_of_getElem? (i := 42) rfl))))) rfl
theorem tw_561 : (Jvm.Cond.methodLink "BoyBishop$ChoirReader" (45 : Nat) ({ cls := "BoyBishop$Tape", name := "fail", desc := "(II)V" } : Jvm.MethodName)) ∈ gT := gT_in (List.mem_append_right _ (List.mem_append_right _ (List.mem_append_right _ (List.mem_append_left _ (List.mem_of_getElem? (i := 81) rfl))))) rfl
theorem tw_562 : (Jvm.Cond.instanceMethod ({ cls := "BoyBishop$Tape", name := "fail", desc := "(II)V" } : Jvm.MethodName)) ∈ gT := gT_in (List.mem_append_right _ (List.mem_append_right _ (List.mem_append_right _ (List.mem_append_left _ (List.mem_of_getElem? (i := 82) rfl))))) rfl
theorem tw_563 : (Jvm.Cond.selects "BoyBishop$Tape" ({ cls := "BoyBishop$Tape", name := "fail", desc := "(II)V" } : Jvm.MethodName) ({ cls := "BoyBishop$Tape", name := "fail", desc := "(II)V" } : Jvm.MethodName)) ∈ gT := gT_in (List.mem_append_right _ (List.mem_append_right _ (List.mem_append_right _ (List.mem_append_left _ (List.mem_of_getElem? (i := 83) rfl))))) rfl
theorem tw_564 : (Jvm.Cond.code ({ cls := "BoyBishop$Tape", name := "fail", desc := "(II)V" } : Jvm.MethodName) prog_11_method_7_code (3 : Nat) (Option.none : Option Jvm.ClassFile.FieldType)) ∈ gT := gT_in (List.mem_append_right _ (List.mem_append_right _ (List.mem_append_right _ (List.mem_append_left _ (List.mem_of_getElem? (i := 84) rfl))))) rfl
theorem tw_76 : (Jvm.Cond.fieldLink "BoyBishop$Choir" (43 : Nat) "BoyBishop$Choir" "boys" "I") ∈ gT := gT_in (List.mem_append_right _ (List.mem_append_left _ (List.mem_of_getElem? (i := 76) rfl))) rfl
theorem tw_82 : (Jvm.Cond.fieldLink "BoyBishop$Choir" (47 : Nat) "BoyBishop$Choir" "canons" "I") ∈ gT := gT_in (List.mem_append_right _ (List.mem_append_left _ (List.mem_of_getElem? (i := 82) rfl))) rfl
theorem tw_86 : (Jvm.Cond.fieldLink "BoyBishop$Choir" (50 : Nat) "BoyBishop$Choir" "farms" "I") ∈ gT := gT_in (List.mem_append_right _ (List.mem_append_left _ (List.mem_of_getElem? (i := 86) rfl))) rfl
theorem dJ7_fill_53178_0 : decode cJ7_fill_53178 0 = .ok (.iconst 0, 1) := by decide +kernel
theorem dJ7_fill_53178_1 : decode cJ7_fill_53178 1 = .ok (.istore_n 2, 1) := by decide +kernel
theorem dJ7_fill_53178_2 : decode cJ7_fill_53178 2 = .ok (.aload_n 0, 1) := by decide +kernel
theorem dJ7_fill_53178_3 : decode cJ7_fill_53178 3 = .ok (.arraylength, 1) := by decide +kernel
theorem dJ7_fill_53178_4 : decode cJ7_fill_53178 4 = .ok (.istore_n 3, 1) := by decide +kernel
theorem dJ7_fill_53178_5 : decode cJ7_fill_53178 5 = .ok (.iload_n 2, 1) := by decide +kernel
theorem dJ7_fill_53178_6 : decode cJ7_fill_53178 6 = .ok (.iload_n 3, 1) := by decide +kernel
theorem dJ7_fill_53178_7 : decode cJ7_fill_53178 7 = .ok (.if_icmp .ge 13, 3) := by decide +kernel
theorem dJ7_fill_53178_10 : decode cJ7_fill_53178 10 = .ok (.aload_n 0, 1) := by decide +kernel
theorem dJ7_fill_53178_11 : decode cJ7_fill_53178 11 = .ok (.iload_n 2, 1) := by decide +kernel
theorem dJ7_fill_53178_12 : decode cJ7_fill_53178 12 = .ok (.iload_n 1, 1) := by decide +kernel
theorem dJ7_fill_53178_13 : decode cJ7_fill_53178 13 = .ok (.iastore, 1) := by decide +kernel
theorem dJ7_fill_53178_14 : decode cJ7_fill_53178 14 = .ok (.iinc 2 1, 3) := by decide +kernel
theorem dJ7_fill_53178_17 : decode cJ7_fill_53178 17 = .ok (.goto (-12), 3) := by decide +kernel
theorem dJ7_fill_53178_20 : decode cJ7_fill_53178 20 = .ok (.return_, 1) := by decide +kernel
theorem dX0_clear_0 : decode cX0_clear 0 = .ok (.aload_n 0, 1) := by decide +kernel
theorem dX0_clear_1 : decode cX0_clear 1 = .ok (.iconst 0, 1) := by decide +kernel
theorem dX0_clear_2 : decode cX0_clear 2 = .ok (.putfield 43, 3) := by decide +kernel
theorem dX0_clear_5 : decode cX0_clear 5 = .ok (.aload_n 0, 1) := by decide +kernel
theorem dX0_clear_6 : decode cX0_clear 6 = .ok (.iconst 0, 1) := by decide +kernel
theorem dX0_clear_7 : decode cX0_clear 7 = .ok (.putfield 47, 3) := by decide +kernel
theorem dX0_clear_10 : decode cX0_clear 10 = .ok (.aload_n 0, 1) := by decide +kernel
theorem dX0_clear_11 : decode cX0_clear 11 = .ok (.iconst 0, 1) := by decide +kernel
theorem dX0_clear_12 : decode cX0_clear 12 = .ok (.putfield 50, 3) := by decide +kernel
theorem dX0_clear_15 : decode cX0_clear 15 = .ok (.aload_n 0, 1) := by decide +kernel
theorem dX0_clear_16 : decode cX0_clear 16 = .ok (.getfield 21, 3) := by decide +kernel
theorem dX0_clear_19 : decode cX0_clear 19 = .ok (.iconst 0, 1) := by decide +kernel
theorem dX0_clear_20 : decode cX0_clear 20 = .ok (.invokestatic 53, 3) := by decide +kernel
theorem dX0_clear_23 : decode cX0_clear 23 = .ok (.aload_n 0, 1) := by decide +kernel
theorem dX0_clear_24 : decode cX0_clear 24 = .ok (.getfield 36, 3) := by decide +kernel
theorem dX0_clear_27 : decode cX0_clear 27 = .ok (.ldc 59, 2) := by decide +kernel
theorem dX0_clear_29 : decode cX0_clear 29 = .ok (.invokestatic 53, 3) := by decide +kernel
theorem dX0_clear_32 : decode cX0_clear 32 = .ok (.iconst 0, 1) := by decide +kernel
theorem dX0_clear_33 : decode cX0_clear 33 = .ok (.istore_n 1, 1) := by decide +kernel
theorem dX0_clear_34 : decode cX0_clear 34 = .ok (.iload_n 1, 1) := by decide +kernel
theorem dX0_clear_35 : decode cX0_clear 35 = .ok (.aload_n 0, 1) := by decide +kernel
theorem dX0_clear_36 : decode cX0_clear 36 = .ok (.getfield 39, 3) := by decide +kernel
theorem dX0_clear_39 : decode cX0_clear 39 = .ok (.arraylength, 1) := by decide +kernel
theorem dX0_clear_40 : decode cX0_clear 40 = .ok (.if_icmp .ge 16, 3) := by decide +kernel
theorem dX0_clear_43 : decode cX0_clear 43 = .ok (.aload_n 0, 1) := by decide +kernel
theorem dX0_clear_44 : decode cX0_clear 44 = .ok (.getfield 39, 3) := by decide +kernel
theorem dX0_clear_47 : decode cX0_clear 47 = .ok (.iload_n 1, 1) := by decide +kernel
theorem dX0_clear_48 : decode cX0_clear 48 = .ok (.iconst 0, 1) := by decide +kernel
theorem dX0_clear_49 : decode cX0_clear 49 = .ok (.bastore, 1) := by decide +kernel
theorem dX0_clear_50 : decode cX0_clear 50 = .ok (.iinc 1 1, 3) := by decide +kernel
theorem dX0_clear_53 : decode cX0_clear 53 = .ok (.goto (-19), 3) := by decide +kernel
theorem dX0_clear_56 : decode cX0_clear 56 = .ok (.return_, 1) := by decide +kernel
theorem dX11_choir_0 : decode cX11_choir 0 = .ok (.aload_n 0, 1) := by decide +kernel
theorem dX11_choir_1 : decode cX11_choir 1 = .ok (.getfield 19, 3) := by decide +kernel
theorem dX11_choir_4 : decode cX11_choir 4 = .ok (.aload_n 0, 1) := by decide +kernel
theorem dX11_choir_5 : decode cX11_choir 5 = .ok (.getfield 10, 3) := by decide +kernel
theorem dX11_choir_8 : decode cX11_choir 8 = .ok (.invokevirtual 108, 3) := by decide +kernel
theorem dX11_choir_11 : decode cX11_choir 11 = .ok (.astore_n 1, 1) := by decide +kernel
theorem dX11_choir_12 : decode cX11_choir 12 = .ok (.aload_n 1, 1) := by decide +kernel
theorem dX11_choir_13 : decode cX11_choir 13 = .ok (.ifnonnull 14, 3) := by decide +kernel
theorem dX11_choir_16 : decode cX11_choir 16 = .ok (.bipush (-2), 2) := by decide +kernel
theorem dX11_choir_18 : decode cX11_choir 18 = .ok (.aload_n 0, 1) := by decide +kernel
theorem dX11_choir_19 : decode cX11_choir 19 = .ok (.getfield 10, 3) := by decide +kernel
theorem dX11_choir_22 : decode cX11_choir 22 = .ok (.getfield 112, 3) := by decide +kernel
theorem dX11_choir_25 : decode cX11_choir 25 = .ok (.isub, 1) := by decide +kernel
theorem dX11_choir_26 : decode cX11_choir 26 = .ok (.ireturn, 1) := by decide +kernel
theorem dX1_read_0 : decode cX1_read 0 = .ok (.aload_n 0, 1) := by decide +kernel
theorem dX1_read_1 : decode cX1_read 1 = .ok (.getfield 12, 3) := by decide +kernel
theorem dX1_read_4 : decode cX1_read 4 = .ok (.invokevirtual 18, 3) := by decide +kernel
theorem dX1_read_7 : decode cX1_read 7 = .ok (.aload_n 1, 1) := by decide +kernel
theorem dX1_read_8 : decode cX1_read 8 = .ok (.invokevirtual 21, 3) := by decide +kernel
theorem dX1_read_11 : decode cX1_read 11 = .ok (.iconst 0, 1) := by decide +kernel
theorem dX1_read_12 : decode cX1_read 12 = .ok (.istore_n 2, 1) := by decide +kernel
theorem dX1_read_13 : decode cX1_read 13 = .ok (.iload_n 2, 1) := by decide +kernel
theorem dX1_read_14 : decode cX1_read 14 = .ok (.bipush 40, 2) := by decide +kernel
theorem dX1_read_16 : decode cX1_read 16 = .ok (.if_icmp .gt 50, 3) := by decide +kernel
theorem dX1_read_19 : decode cX1_read 19 = .ok (.aload_n 0, 1) := by decide +kernel
theorem dX1_read_20 : decode cX1_read 20 = .ok (.aload_n 1, 1) := by decide +kernel
theorem dX1_read_21 : decode cX1_read 21 = .ok (.iload_n 2, 1) := by decide +kernel
theorem dX1_read_22 : decode cX1_read 22 = .ok (.invokevirtual 26, 3) := by decide +kernel
theorem dX1_read_25 : decode cX1_read 25 = .ok (.aload_n 1, 1) := by decide +kernel
theorem dX1_read_26 : decode cX1_read 26 = .ok (.getfield 30, 3) := by decide +kernel
theorem dX1_read_29 : decode cX1_read 29 = .ok (.ifCond .ne 37, 3) := by decide +kernel
theorem dX1_read_66 : decode cX1_read 66 = .ok (.aload_n 1, 1) := by decide +kernel
theorem dX1_read_67 : decode cX1_read 67 = .ok (.getfield 30, 3) := by decide +kernel
theorem dX1_read_70 : decode cX1_read 70 = .ok (.ifCond .eq 5, 3) := by decide +kernel
theorem dX1_read_73 : decode cX1_read 73 = .ok (.aconst_null, 1) := by decide +kernel
theorem dX1_read_74 : decode cX1_read 74 = .ok (.areturn, 1) := by decide +kernel
theorem dX1_readClause_0 : decode cX1_readClause 0 = .ok (.aload_n 1, 1) := by decide +kernel
theorem dX1_readClause_1 : decode cX1_readClause 1 = .ok (.getfield 42, 3) := by decide +kernel
theorem dX1_readClause_4 : decode cX1_readClause 4 = .ok (.istore_n 3, 1) := by decide +kernel
theorem dX1_readClause_5 : decode cX1_readClause 5 = .ok (.aload_n 1, 1) := by decide +kernel
theorem dX1_readClause_6 : decode cX1_readClause 6 = .ok (.ldc 56, 2) := by decide +kernel
theorem dX1_readClause_8 : decode cX1_readClause 8 = .ok (.invokevirtual 58, 3) := by decide +kernel
theorem dX1_readClause_11 : decode cX1_readClause 11 = .ok (.istore 4, 2) := by decide +kernel
theorem dX1_readClause_13 : decode cX1_readClause 13 = .ok (.iload 4, 2) := by decide +kernel
theorem dX1_readClause_15 : decode cX1_readClause 15 = .ok (.iconst (-1), 1) := by decide +kernel
theorem dX1_readClause_16 : decode cX1_readClause 16 = .ok (.if_icmp .ne 12, 3) := by decide +kernel
theorem dX1_readClause_19 : decode cX1_readClause 19 = .ok (.aload_n 1, 1) := by decide +kernel
theorem dX1_readClause_20 : decode cX1_readClause 20 = .ok (.iload_n 3, 1) := by decide +kernel
theorem dX1_readClause_21 : decode cX1_readClause 21 = .ok (.iconst 0, 1) := by decide +kernel
theorem dX1_readClause_22 : decode cX1_readClause 22 = .ok (.invokevirtual 45, 3) := by decide +kernel
theorem dX1_readClause_25 : decode cX1_readClause 25 = .ok (.goto 56, 3) := by decide +kernel
theorem dX1_readClause_81 : decode cX1_readClause 81 = .ok (.return_, 1) := by decide +kernel
theorem dX9_fail_0 : decode cX9_fail 0 = .ok (.aload_n 0, 1) := by decide +kernel
theorem dX9_fail_1 : decode cX9_fail 1 = .ok (.getfield 19, 3) := by decide +kernel
theorem dX9_fail_4 : decode cX9_fail 4 = .ok (.ifCond .ne 15, 3) := by decide +kernel
theorem dX9_fail_7 : decode cX9_fail 7 = .ok (.aload_n 0, 1) := by decide +kernel
theorem dX9_fail_8 : decode cX9_fail 8 = .ok (.iconst 1, 1) := by decide +kernel
theorem dX9_fail_9 : decode cX9_fail 9 = .ok (.bipush 8, 2) := by decide +kernel
theorem dX9_fail_11 : decode cX9_fail 11 = .ok (.iload_n 1, 1) := by decide +kernel
theorem dX9_fail_12 : decode cX9_fail 12 = .ok (.imul, 1) := by decide +kernel
theorem dX9_fail_13 : decode cX9_fail 13 = .ok (.iadd, 1) := by decide +kernel
theorem dX9_fail_14 : decode cX9_fail 14 = .ok (.iload_n 2, 1) := by decide +kernel
theorem dX9_fail_15 : decode cX9_fail 15 = .ok (.iadd, 1) := by decide +kernel
theorem dX9_fail_16 : decode cX9_fail 16 = .ok (.putfield 19, 3) := by decide +kernel
theorem dX9_fail_19 : decode cX9_fail 19 = .ok (.return_, 1) := by decide +kernel
theorem dX9_moveTo_0 : decode cX9_moveTo 0 = .ok (.aload_n 0, 1) := by decide +kernel
theorem dX9_moveTo_1 : decode cX9_moveTo 1 = .ok (.iload_n 1, 1) := by decide +kernel
theorem dX9_moveTo_2 : decode cX9_moveTo 2 = .ok (.putfield 26, 3) := by decide +kernel
theorem dX9_moveTo_5 : decode cX9_moveTo 5 = .ok (.aload_n 0, 1) := by decide +kernel
theorem dX9_moveTo_6 : decode cX9_moveTo 6 = .ok (.getfield 26, 3) := by decide +kernel
theorem dX9_moveTo_9 : decode cX9_moveTo 9 = .ok (.aload_n 0, 1) := by decide +kernel
theorem dX9_moveTo_10 : decode cX9_moveTo 10 = .ok (.getfield 15, 3) := by decide +kernel
theorem dX9_moveTo_13 : decode cX9_moveTo 13 = .ok (.if_icmp .ge 30, 3) := by decide +kernel
theorem dX9_moveTo_43 : decode cX9_moveTo 43 = .ok (.return_, 1) := by decide +kernel
theorem dX9_startReading_0 : decode cX9_startReading 0 = .ok (.aload_n 0, 1) := by decide +kernel
theorem dX9_startReading_1 : decode cX9_startReading 1 = .ok (.iconst 0, 1) := by decide +kernel
theorem dX9_startReading_2 : decode cX9_startReading 2 = .ok (.putfield 19, 3) := by decide +kernel
theorem dX9_startReading_5 : decode cX9_startReading 5 = .ok (.aload_n 0, 1) := by decide +kernel
theorem dX9_startReading_6 : decode cX9_startReading 6 = .ok (.iconst 0, 1) := by decide +kernel
theorem dX9_startReading_7 : decode cX9_startReading 7 = .ok (.invokevirtual 22, 3) := by decide +kernel
theorem dX9_startReading_10 : decode cX9_startReading 10 = .ok (.return_, 1) := by decide +kernel
theorem dX9_takeWord_0 : decode cX9_takeWord 0 = .ok (.aload_n 0, 1) := by decide +kernel
theorem dX9_takeWord_1 : decode cX9_takeWord 1 = .ok (.getfield 26, 3) := by decide +kernel
theorem dX9_takeWord_4 : decode cX9_takeWord 4 = .ok (.istore_n 2, 1) := by decide +kernel
theorem dX9_takeWord_5 : decode cX9_takeWord 5 = .ok (.iload_n 2, 1) := by decide +kernel
theorem dX9_takeWord_6 : decode cX9_takeWord 6 = .ok (.aload_n 0, 1) := by decide +kernel
theorem dX9_takeWord_7 : decode cX9_takeWord 7 = .ok (.getfield 15, 3) := by decide +kernel
theorem dX9_takeWord_10 : decode cX9_takeWord 10 = .ok (.if_icmp .ge 31, 3) := by decide +kernel
theorem dX9_takeWord_41 : decode cX9_takeWord 41 = .ok (.iconst 0, 1) := by decide +kernel
theorem dX9_takeWord_42 : decode cX9_takeWord 42 = .ok (.istore_n 3, 1) := by decide +kernel
theorem dX9_takeWord_43 : decode cX9_takeWord 43 = .ok (.iconst 0, 1) := by decide +kernel
theorem dX9_takeWord_44 : decode cX9_takeWord 44 = .ok (.istore 4, 2) := by decide +kernel
theorem dX9_takeWord_46 : decode cX9_takeWord 46 = .ok (.iconst 0, 1) := by decide +kernel
theorem dX9_takeWord_47 : decode cX9_takeWord 47 = .ok (.istore 5, 2) := by decide +kernel
theorem dX9_takeWord_49 : decode cX9_takeWord 49 = .ok (.iload 5, 2) := by decide +kernel
theorem dX9_takeWord_51 : decode cX9_takeWord 51 = .ok (.aload_n 1, 1) := by decide +kernel
theorem dX9_takeWord_52 : decode cX9_takeWord 52 = .ok (.invokevirtual 33, 3) := by decide +kernel
theorem dX9_takeWord_55 : decode cX9_takeWord 55 = .ok (.if_icmp .ge 72, 3) := by decide +kernel
theorem dX9_takeWord_58 : decode cX9_takeWord 58 = .ok (.aload_n 0, 1) := by decide +kernel
theorem dX9_takeWord_59 : decode cX9_takeWord 59 = .ok (.getfield 19, 3) := by decide +kernel
theorem dX9_takeWord_62 : decode cX9_takeWord 62 = .ok (.ifCond .ne 65, 3) := by decide +kernel
theorem dX9_takeWord_65 : decode cX9_takeWord 65 = .ok (.aload_n 1, 1) := by decide +kernel
theorem dX9_takeWord_66 : decode cX9_takeWord 66 = .ok (.iload 5, 2) := by decide +kernel
theorem dX9_takeWord_68 : decode cX9_takeWord 68 = .ok (.invokevirtual 38, 3) := by decide +kernel
theorem dX9_takeWord_71 : decode cX9_takeWord 71 = .ok (.bipush 32, 2) := by decide +kernel
theorem dX9_takeWord_73 : decode cX9_takeWord 73 = .ok (.if_icmp .eq 6, 3) := by decide +kernel
theorem dX9_takeWord_76 : decode cX9_takeWord 76 = .ok (.goto 45, 3) := by decide +kernel
theorem dX9_takeWord_79 : decode cX9_takeWord 79 = .ok (.iload 5, 2) := by decide +kernel
theorem dX9_takeWord_81 : decode cX9_takeWord 81 = .ok (.iload 4, 2) := by decide +kernel
theorem dX9_takeWord_83 : decode cX9_takeWord 83 = .ok (.isub, 1) := by decide +kernel
theorem dX9_takeWord_84 : decode cX9_takeWord 84 = .ok (.iload_n 2, 1) := by decide +kernel
theorem dX9_takeWord_85 : decode cX9_takeWord 85 = .ok (.aload_n 0, 1) := by decide +kernel
theorem dX9_takeWord_86 : decode cX9_takeWord 86 = .ok (.getfield 26, 3) := by decide +kernel
theorem dX9_takeWord_89 : decode cX9_takeWord 89 = .ok (.isub, 1) := by decide +kernel
theorem dX9_takeWord_90 : decode cX9_takeWord 90 = .ok (.if_icmp .ne 22, 3) := by decide +kernel
theorem dX9_takeWord_112 : decode cX9_takeWord 112 = .ok (.iinc 3 1, 3) := by decide +kernel
theorem dX9_takeWord_115 : decode cX9_takeWord 115 = .ok (.iload 5, 2) := by decide +kernel
theorem dX9_takeWord_117 : decode cX9_takeWord 117 = .ok (.iconst 1, 1) := by decide +kernel
theorem dX9_takeWord_118 : decode cX9_takeWord 118 = .ok (.iadd, 1) := by decide +kernel
theorem dX9_takeWord_119 : decode cX9_takeWord 119 = .ok (.istore 4, 2) := by decide +kernel
theorem dX9_takeWord_121 : decode cX9_takeWord 121 = .ok (.iinc 5 1, 3) := by decide +kernel
theorem dX9_takeWord_124 : decode cX9_takeWord 124 = .ok (.goto (-75), 3) := by decide +kernel
theorem dX9_takeWord_127 : decode cX9_takeWord 127 = .ok (.iconst (-1), 1) := by decide +kernel
theorem dX9_takeWord_128 : decode cX9_takeWord 128 = .ok (.ireturn, 1) := by decide +kernel
set_option maxHeartbeats 4000000 in
set_option maxRecDepth 100000 in
theorem j_fill_36 (l : Launch) (dC : Nat → ClassId) (dI : Nat → Nat → Nat) (ar : Nat) (ak : ClassId) (f : Nat → Int32) (v : Int32) (sz : Nat) : Met l yJ7_fill_53178 (ws_u yJ7_fill_53178 cJ7_fill_53178 4 none) ({ frames := 0, cells := 0, slots := 0, locals := 0 }) (va_Pc [.ref ar, .int v] (cPre (dC, dI) [(ak, .int)] [(ar, .inl (ak, 36, .inl f))] sz)) (va_Qv (fun _ : Unit => True) (fun _ t => ∃ (g : Nat → Int32), cPost (dC, dI) [(ak, .int)] [(ar, .inl (ak, 36, .inl g))] (va_A [(ar, .inl (ak, 36, .inl f))] sz) t) (va_A [(ar, .inl (ak, 36, .inl f))] sz)) 0 0 (va_A [(ar, .inl (ak, 36, .inl f))] sz) := by
  refine Met.ofW (cc := cJ7_fill_53178) (maxL := 4) (ret := none) (by decide) rfl ?_
  intro p e s m args below meth c s₁ B hml hv
  obtain ⟨rfl, hsz, hP, hK, hD0, hE⟩ := hv
  have hx := B.exec
  have hb := B.bytes
  have hr := B.returns
  have hts0 := atoms_spec (ws := ws_u yJ7_fill_53178 cJ7_fill_53178 4 none) B.pre
  have hts : ∀ w ∈ gT, w.before _ s = true := fun w h => hts0 w (List.mem_cons_of_mem _ h)
  have hown : s.vm.findClass RJ7 = some m.cls := findClass_of_methodNamed B.named
  have hlocks := B.notSynchronized
  subst hsz
  have hD := hD0.self (sz := s.heap.size)
  generalize hAe : va_A [(ar, .inl (ak, 36, .inl f))] s.heap.size = A at hD ⊢
  have hA : ∀ q : Nat, s.heap.size ≤ q → A q := fun q h => by rw [← hAe]; exact Or.inr h
  have hS : va_S A s.heap s.heap [] := va_S.rf
  have hl := lv_entry ([.ref ar, .int v]) (n := 4) (Nat.le_of_ble_eq_true rfl)
  rw [lg_entry_eq]
  generalize (lg_sl ([.ref ar, .int v]) ++ List.replicate (4 - (lg_sl ([.ref ar, .int v])).length) Slot.unset).toArray = ls at hl ⊢
  have hl : lv_has ls 4 [(0, .ref ar), (1, .int v)] := hl
  have hP : va_P (dC, dI) vwCl [(ar, .inl (ak, 36, .inl f))] s.heap := hP
  try clear hAe
  refine lv_iconst (v := 0) hx hb dJ7_fill_53178_0 (by decide) ?_
  refine lv_istore_n (lv' := [(2, .int 0), (0, .ref ar), (1, .int v)]) hx hb dJ7_fill_53178_1 rfl hl (by decide) rfl (fun ls hl => ?_)
  refine lv_aload_n hx hb dJ7_fill_53178_2 rfl (lv_at hl 1 rfl) ?_
  refine va_alen (v := 36) hx hb hK hP 0 0 rfl rfl rfl dJ7_fill_53178_3 ?_
  refine lv_istore_n (lv' := [(3, .int 36), (2, .int 0), (0, .ref ar), (1, .int v)]) hx hb dJ7_fill_53178_4 rfl hl (by decide) rfl (fun ls hl => ?_)
  refine loopW (N := 36) (fun (i_2 : Nat) (g : (Nat → Int32)) H locs ls => va_P (dC, dI) vwCl [(ar, .inl (ak, 36, .inl g))] H ∧ va_D A [(ar, .inl (ak, 36, .inl g))] ∧ va_S A s.heap H locs ∧ lv_has ls 4 [(3, .int 36), (2, .int (nI i_2)), (0, .ref ar), (1, .int v)]) ?_ (f) _ _ _ ⟨hP, hD, hS, lv_sub hl [0, 1, 2, 3] rfl⟩
  intro i_2 f_1 H locs ls hi_i_2 ⟨hP, hD, hS, hl⟩ ih_i_2
  refine lv_iload_n hx hb dJ7_fill_53178_5 rfl (lv_at hl 1 rfl) ?_
  refine lv_iload_n hx hb dJ7_fill_53178_6 rfl (lv_at hl 0 rfl) ?_
  refine lv_icmp_ge (tgt := 20) hx hb dJ7_fill_53178_7 (by decide) (fun c_3 => ?_) (fun c_3 => ?_)
  · have hP9 := hP.sub (ws' := [(ar, .inl (ak, 36, .inl f_1))]) [0] rfl
    have hD9 := hD.sub (ws' := [(ar, .inl (ak, 36, .inl f_1))]) [0] (by decide) rfl
    have hK9 := hK.sub (tys' := [(ak, .int)]) [0] rfl
    refine W.widen (k := 0) (n := 0) (Nat.le_of_ble_eq_true rfl) (Nat.le_of_ble_eq_true rfl) ?_
    exact W.vret hx hb hr (fun t ht hW => ⟨⟨(), rfl, trivial, ⟨f_1, by rw [ht]; exact hP9, va_K.moved hW.alike hK9, hD9⟩⟩, hS.F ht⟩) hS.2.2 dJ7_fill_53178_20
  · have hlt_i_2 : i_2 < 36 := lt_of_nle (k := 36) ⟨rfl, by decide⟩ c_3 hi_i_2
    refine lv_aload_n hx hb dJ7_fill_53178_10 rfl (lv_at hl 2 rfl) ?_
    refine lv_iload_n hx hb dJ7_fill_53178_11 rfl (lv_at hl 1 rfl) ?_
    refine lv_iload_n hx hb dJ7_fill_53178_12 rfl (lv_at hl 3 rfl) ?_
    refine va_iast hx hb hK hP hD hS 0 0 rfl rfl (vp_in_nI (by omega) (by decide)) dJ7_fill_53178_13 (fun H locs hP hD hS => ?_)
    have hP : va_P (dC, dI) vwCl [(ar, .inl (ak, 36, .inl (upd f_1 (Int32.toNatClampNeg (nI i_2)) v)))] H := hP
    have hD : va_D A [(ar, .inl (ak, 36, .inl (upd f_1 (Int32.toNatClampNeg (nI i_2)) v)))] := hD
    generalize upd f_1 (Int32.toNatClampNeg (nI i_2)) v = f_4 at hP hD
    refine lv_iinc (v := nI (i_2 + 1)) (lv' := [(2, .int (nI (i_2 + 1))), (3, .int 36), (0, .ref ar), (1, .int v)]) hx hb dJ7_fill_53178_14 hl (k := 1) rfl (nI_1 _) (by decide) rfl (fun ls hl => ?_)
    refine lv_goto (tgt := 5) hx hb dJ7_fill_53178_17 (by decide) ?_
    exact ih_i_2 f_4 _ _ _ hlt_i_2 ⟨hP, hD, hS, lv_sub hl [1, 0, 2, 3] rfl⟩
set_option maxHeartbeats 4000000 in
set_option maxRecDepth 100000 in
theorem j_fill_49 (l : Launch) (dC : Nat → ClassId) (dI : Nat → Nat → Nat) (ar : Nat) (ak : ClassId) (f : Nat → Int32) (v : Int32) (sz : Nat) : Met l yJ7_fill_53178 (ws_u yJ7_fill_53178 cJ7_fill_53178 4 none) ({ frames := 0, cells := 0, slots := 0, locals := 0 }) (va_Pc [.ref ar, .int v] (cPre (dC, dI) [(ak, .int)] [(ar, .inl (ak, 49, .inl f))] sz)) (va_Qv (fun _ : Unit => True) (fun _ t => ∃ (g : Nat → Int32), cPost (dC, dI) [(ak, .int)] [(ar, .inl (ak, 49, .inl g))] (va_A [(ar, .inl (ak, 49, .inl f))] sz) t) (va_A [(ar, .inl (ak, 49, .inl f))] sz)) 0 0 (va_A [(ar, .inl (ak, 49, .inl f))] sz) := by
  refine Met.ofW (cc := cJ7_fill_53178) (maxL := 4) (ret := none) (by decide) rfl ?_
  intro p e s m args below meth c s₁ B hml hv
  obtain ⟨rfl, hsz, hP, hK, hD0, hE⟩ := hv
  have hx := B.exec
  have hb := B.bytes
  have hr := B.returns
  have hts0 := atoms_spec (ws := ws_u yJ7_fill_53178 cJ7_fill_53178 4 none) B.pre
  have hts : ∀ w ∈ gT, w.before _ s = true := fun w h => hts0 w (List.mem_cons_of_mem _ h)
  have hown : s.vm.findClass RJ7 = some m.cls := findClass_of_methodNamed B.named
  have hlocks := B.notSynchronized
  subst hsz
  have hD := hD0.self (sz := s.heap.size)
  generalize hAe : va_A [(ar, .inl (ak, 49, .inl f))] s.heap.size = A at hD ⊢
  have hA : ∀ q : Nat, s.heap.size ≤ q → A q := fun q h => by rw [← hAe]; exact Or.inr h
  have hS : va_S A s.heap s.heap [] := va_S.rf
  have hl := lv_entry ([.ref ar, .int v]) (n := 4) (Nat.le_of_ble_eq_true rfl)
  rw [lg_entry_eq]
  generalize (lg_sl ([.ref ar, .int v]) ++ List.replicate (4 - (lg_sl ([.ref ar, .int v])).length) Slot.unset).toArray = ls at hl ⊢
  have hl : lv_has ls 4 [(0, .ref ar), (1, .int v)] := hl
  have hP : va_P (dC, dI) vwCl [(ar, .inl (ak, 49, .inl f))] s.heap := hP
  try clear hAe
  refine lv_iconst (v := 0) hx hb dJ7_fill_53178_0 (by decide) ?_
  refine lv_istore_n (lv' := [(2, .int 0), (0, .ref ar), (1, .int v)]) hx hb dJ7_fill_53178_1 rfl hl (by decide) rfl (fun ls hl => ?_)
  refine lv_aload_n hx hb dJ7_fill_53178_2 rfl (lv_at hl 1 rfl) ?_
  refine va_alen (v := 49) hx hb hK hP 0 0 rfl rfl rfl dJ7_fill_53178_3 ?_
  refine lv_istore_n (lv' := [(3, .int 49), (2, .int 0), (0, .ref ar), (1, .int v)]) hx hb dJ7_fill_53178_4 rfl hl (by decide) rfl (fun ls hl => ?_)
  refine loopW (N := 49) (fun (i_2 : Nat) (g : (Nat → Int32)) H locs ls => va_P (dC, dI) vwCl [(ar, .inl (ak, 49, .inl g))] H ∧ va_D A [(ar, .inl (ak, 49, .inl g))] ∧ va_S A s.heap H locs ∧ lv_has ls 4 [(3, .int 49), (2, .int (nI i_2)), (0, .ref ar), (1, .int v)]) ?_ (f) _ _ _ ⟨hP, hD, hS, lv_sub hl [0, 1, 2, 3] rfl⟩
  intro i_2 f_1 H locs ls hi_i_2 ⟨hP, hD, hS, hl⟩ ih_i_2
  refine lv_iload_n hx hb dJ7_fill_53178_5 rfl (lv_at hl 1 rfl) ?_
  refine lv_iload_n hx hb dJ7_fill_53178_6 rfl (lv_at hl 0 rfl) ?_
  refine lv_icmp_ge (tgt := 20) hx hb dJ7_fill_53178_7 (by decide) (fun c_3 => ?_) (fun c_3 => ?_)
  · have hP9 := hP.sub (ws' := [(ar, .inl (ak, 49, .inl f_1))]) [0] rfl
    have hD9 := hD.sub (ws' := [(ar, .inl (ak, 49, .inl f_1))]) [0] (by decide) rfl
    have hK9 := hK.sub (tys' := [(ak, .int)]) [0] rfl
    refine W.widen (k := 0) (n := 0) (Nat.le_of_ble_eq_true rfl) (Nat.le_of_ble_eq_true rfl) ?_
    exact W.vret hx hb hr (fun t ht hW => ⟨⟨(), rfl, trivial, ⟨f_1, by rw [ht]; exact hP9, va_K.moved hW.alike hK9, hD9⟩⟩, hS.F ht⟩) hS.2.2 dJ7_fill_53178_20
  · have hlt_i_2 : i_2 < 49 := lt_of_nle (k := 49) ⟨rfl, by decide⟩ c_3 hi_i_2
    refine lv_aload_n hx hb dJ7_fill_53178_10 rfl (lv_at hl 2 rfl) ?_
    refine lv_iload_n hx hb dJ7_fill_53178_11 rfl (lv_at hl 1 rfl) ?_
    refine lv_iload_n hx hb dJ7_fill_53178_12 rfl (lv_at hl 3 rfl) ?_
    refine va_iast hx hb hK hP hD hS 0 0 rfl rfl (vp_in_nI (by omega) (by decide)) dJ7_fill_53178_13 (fun H locs hP hD hS => ?_)
    have hP : va_P (dC, dI) vwCl [(ar, .inl (ak, 49, .inl (upd f_1 (Int32.toNatClampNeg (nI i_2)) v)))] H := hP
    have hD : va_D A [(ar, .inl (ak, 49, .inl (upd f_1 (Int32.toNatClampNeg (nI i_2)) v)))] := hD
    generalize upd f_1 (Int32.toNatClampNeg (nI i_2)) v = f_4 at hP hD
    refine lv_iinc (v := nI (i_2 + 1)) (lv' := [(2, .int (nI (i_2 + 1))), (3, .int 49), (0, .ref ar), (1, .int v)]) hx hb dJ7_fill_53178_14 hl (k := 1) rfl (nI_1 _) (by decide) rfl (fun ls hl => ?_)
    refine lv_goto (tgt := 5) hx hb dJ7_fill_53178_17 (by decide) ?_
    exact ih_i_2 f_4 _ _ _ hlt_i_2 ⟨hP, hD, hS, lv_sub hl [1, 0, 2, 3] rfl⟩
set_option maxHeartbeats 4000000 in
set_option maxRecDepth 100000 in
theorem c_clear (l : Launch) (dC : Nat → ClassId) (dI : Nat → Nat → Nat) (sc : Nat) (sc0 : Nat) (sc1 : Nat) (sc2 : Nat) (sc3 : Nat) (sc4 : Nat) (sc5 : Nat) (sc6 : Nat) (sc7 : Nat) (sc8 : Nat) (sc9 : Nat) (sck3 : ClassId) (sck8 : ClassId) (sck9 : ClassId) (sz : Nat) : Met l yX0_clear (ws_u yX0_clear cX0_clear 2 none) ({ frames := 1, cells := 0, slots := 0, locals := 23 }) (va_Pc [.ref sc] (cPre (dC, dI) [(sck3, .int), (sck8, .int), (sck9, .boolean)] [(sc, .inr (0, [.int 0, .int 0, .int 0, .int 0, .int 0, .int 0, .ref sc0, .ref sc1, .ref sc2, .ref sc3, .ref sc4, .ref sc5, .ref sc6, .ref sc7, .ref sc8, .ref sc9])), (sc3, .inl (sck3, 36, .inl (fun _ => 0))), (sc8, .inl (sck8, 49, .inl (fun _ => 0))), (sc9, .inl (sck9, 61, .inl (fun _ => 0)))] sz)) (va_Qv (fun _ : Unit => True) (fun _ t => cPost (dC, dI) [] [(sc, .inr (0, [.int 0, .int 0, .int 0, .int 0, .int 0, .int 0, .ref sc0, .ref sc1, .ref sc2, .ref sc3, .ref sc4, .ref sc5, .ref sc6, .ref sc7, .ref sc8, .ref sc9]))] (va_A [(sc, .inr (0, [.int 0, .int 0, .int 0, .int 0, .int 0, .int 0, .ref sc0, .ref sc1, .ref sc2, .ref sc3, .ref sc4, .ref sc5, .ref sc6, .ref sc7, .ref sc8, .ref sc9])), (sc3, .inl (sck3, 36, .inl (fun _ => 0))), (sc8, .inl (sck8, 49, .inl (fun _ => 0))), (sc9, .inl (sck9, 61, .inl (fun _ => 0)))] sz) t) (va_A [(sc, .inr (0, [.int 0, .int 0, .int 0, .int 0, .int 0, .int 0, .ref sc0, .ref sc1, .ref sc2, .ref sc3, .ref sc4, .ref sc5, .ref sc6, .ref sc7, .ref sc8, .ref sc9])), (sc3, .inl (sck3, 36, .inl (fun _ => 0))), (sc8, .inl (sck8, 49, .inl (fun _ => 0))), (sc9, .inl (sck9, 61, .inl (fun _ => 0)))] sz)) 0 0 (va_A [(sc, .inr (0, [.int 0, .int 0, .int 0, .int 0, .int 0, .int 0, .ref sc0, .ref sc1, .ref sc2, .ref sc3, .ref sc4, .ref sc5, .ref sc6, .ref sc7, .ref sc8, .ref sc9])), (sc3, .inl (sck3, 36, .inl (fun _ => 0))), (sc8, .inl (sck8, 49, .inl (fun _ => 0))), (sc9, .inl (sck9, 61, .inl (fun _ => 0)))] sz) := by
  refine Met.ofW (cc := cX0_clear) (maxL := 2) (ret := none) (by decide) rfl ?_
  intro p e s m args below meth c s₁ B hml hv
  obtain ⟨rfl, hsz, hP, hK, hD0, hE⟩ := hv
  have hx := B.exec
  have hb := B.bytes
  have hr := B.returns
  have hts0 := atoms_spec (ws := ws_u yX0_clear cX0_clear 2 none) B.pre
  have hts : ∀ w ∈ gT, w.before _ s = true := fun w h => hts0 w (List.mem_cons_of_mem _ h)
  have hown : s.vm.findClass RX0 = some m.cls := findClass_of_methodNamed B.named
  have hlocks := B.notSynchronized
  subst hsz
  have hD := hD0.self (sz := s.heap.size)
  generalize hAe : va_A [(sc, .inr (0, [.int 0, .int 0, .int 0, .int 0, .int 0, .int 0, .ref sc0, .ref sc1, .ref sc2, .ref sc3, .ref sc4, .ref sc5, .ref sc6, .ref sc7, .ref sc8, .ref sc9])), (sc3, .inl (sck3, 36, .inl (fun _ => 0))), (sc8, .inl (sck8, 49, .inl (fun _ => 0))), (sc9, .inl (sck9, 61, .inl (fun _ => 0)))] s.heap.size = A at hD ⊢
  have hA : ∀ q : Nat, s.heap.size ≤ q → A q := fun q h => by rw [← hAe]; exact Or.inr h
  have hS : va_S A s.heap s.heap [] := va_S.rf
  have hl := lv_entry ([.ref sc]) (n := 2) (Nat.le_of_ble_eq_true rfl)
  rw [lg_entry_eq]
  generalize (lg_sl ([.ref sc]) ++ List.replicate (2 - (lg_sl ([.ref sc])).length) Slot.unset).toArray = ls at hl ⊢
  have hl : lv_has ls 2 [(0, .ref sc)] := hl
  have hP : va_P (dC, dI) vwCl [(sc, .inr (0, [.int 0, .int 0, .int 0, .int 0, .int 0, .int 0, .ref sc0, .ref sc1, .ref sc2, .ref sc3, .ref sc4, .ref sc5, .ref sc6, .ref sc7, .ref sc8, .ref sc9])), (sc3, .inl (sck3, 36, .inl (fun _ => 0))), (sc8, .inl (sck8, 49, .inl (fun _ => 0))), (sc9, .inl (sck9, 61, .inl (fun _ => 0)))] s.heap := hP
  try clear hAe
  refine lv_aload_n hx hb dX0_clear_0 rfl (lv_at hl 0 rfl) ?_
  refine lv_iconst (v := 0) hx hb dX0_clear_1 (by decide) ?_
  refine va_put (D := (dC, dI)) (ci := 0) (v := .int 0) (C := RX0) (T := TX0) (N := 16) hx hb hts iX0 tyX0 tyX0_ok nmX0 hown hK hP hD hS 0 rfl rfl 3 (by decide) (hts _ tw_76) (fun _ h9 => h9) rfl (tyX0_ok 3 (by decide)) rfl rfl (Nat.le_of_ble_eq_true rfl) dX0_clear_2 (fun H locs hP hD hS => ?_)
  have hP : va_P (dC, dI) vwCl [(sc, .inr (0, [.int 0, .int 0, .int 0, .int 0, .int 0, .int 0, .ref sc0, .ref sc1, .ref sc2, .ref sc3, .ref sc4, .ref sc5, .ref sc6, .ref sc7, .ref sc8, .ref sc9])), (sc3, .inl (sck3, 36, .inl (fun _ => 0))), (sc8, .inl (sck8, 49, .inl (fun _ => 0))), (sc9, .inl (sck9, 61, .inl (fun _ => 0)))] H := hP
  have hD : va_D A [(sc, .inr (0, [.int 0, .int 0, .int 0, .int 0, .int 0, .int 0, .ref sc0, .ref sc1, .ref sc2, .ref sc3, .ref sc4, .ref sc5, .ref sc6, .ref sc7, .ref sc8, .ref sc9])), (sc3, .inl (sck3, 36, .inl (fun _ => 0))), (sc8, .inl (sck8, 49, .inl (fun _ => 0))), (sc9, .inl (sck9, 61, .inl (fun _ => 0)))] := hD
  refine lv_aload_n hx hb dX0_clear_5 rfl (lv_at hl 0 rfl) ?_
  refine lv_iconst (v := 0) hx hb dX0_clear_6 (by decide) ?_
  refine va_put (D := (dC, dI)) (ci := 0) (v := .int 0) (C := RX0) (T := TX0) (N := 16) hx hb hts iX0 tyX0 tyX0_ok nmX0 hown hK hP hD hS 0 rfl rfl 4 (by decide) (hts _ tw_82) (fun _ h9 => h9) rfl (tyX0_ok 4 (by decide)) rfl rfl (Nat.le_of_ble_eq_true rfl) dX0_clear_7 (fun H locs hP hD hS => ?_)
  have hP : va_P (dC, dI) vwCl [(sc, .inr (0, [.int 0, .int 0, .int 0, .int 0, .int 0, .int 0, .ref sc0, .ref sc1, .ref sc2, .ref sc3, .ref sc4, .ref sc5, .ref sc6, .ref sc7, .ref sc8, .ref sc9])), (sc3, .inl (sck3, 36, .inl (fun _ => 0))), (sc8, .inl (sck8, 49, .inl (fun _ => 0))), (sc9, .inl (sck9, 61, .inl (fun _ => 0)))] H := hP
  have hD : va_D A [(sc, .inr (0, [.int 0, .int 0, .int 0, .int 0, .int 0, .int 0, .ref sc0, .ref sc1, .ref sc2, .ref sc3, .ref sc4, .ref sc5, .ref sc6, .ref sc7, .ref sc8, .ref sc9])), (sc3, .inl (sck3, 36, .inl (fun _ => 0))), (sc8, .inl (sck8, 49, .inl (fun _ => 0))), (sc9, .inl (sck9, 61, .inl (fun _ => 0)))] := hD
  refine lv_aload_n hx hb dX0_clear_10 rfl (lv_at hl 0 rfl) ?_
  refine lv_iconst (v := 0) hx hb dX0_clear_11 (by decide) ?_
  refine va_put (D := (dC, dI)) (ci := 0) (v := .int 0) (C := RX0) (T := TX0) (N := 16) hx hb hts iX0 tyX0 tyX0_ok nmX0 hown hK hP hD hS 0 rfl rfl 5 (by decide) (hts _ tw_86) (fun _ h9 => h9) rfl (tyX0_ok 5 (by decide)) rfl rfl (Nat.le_of_ble_eq_true rfl) dX0_clear_12 (fun H locs hP hD hS => ?_)
  have hP : va_P (dC, dI) vwCl [(sc, .inr (0, [.int 0, .int 0, .int 0, .int 0, .int 0, .int 0, .ref sc0, .ref sc1, .ref sc2, .ref sc3, .ref sc4, .ref sc5, .ref sc6, .ref sc7, .ref sc8, .ref sc9])), (sc3, .inl (sck3, 36, .inl (fun _ => 0))), (sc8, .inl (sck8, 49, .inl (fun _ => 0))), (sc9, .inl (sck9, 61, .inl (fun _ => 0)))] H := hP
  have hD : va_D A [(sc, .inr (0, [.int 0, .int 0, .int 0, .int 0, .int 0, .int 0, .ref sc0, .ref sc1, .ref sc2, .ref sc3, .ref sc4, .ref sc5, .ref sc6, .ref sc7, .ref sc8, .ref sc9])), (sc3, .inl (sck3, 36, .inl (fun _ => 0))), (sc8, .inl (sck8, 49, .inl (fun _ => 0))), (sc9, .inl (sck9, 61, .inl (fun _ => 0)))] := hD
  refine lv_aload_n hx hb dX0_clear_15 rfl (lv_at hl 0 rfl) ?_
  refine va_get (D := (dC, dI)) (ci := 0) (v := .ref sc3) (C := RX0) (T := TX0) (N := 16) hx hb hts iX0 hown hK hP 0 rfl rfl 9 (by decide) (hts _ tw_101) (fun _ h9 => h9) rfl dX0_clear_16 ?_
  refine lv_iconst (v := 0) hx hb dX0_clear_19 (by decide) ?_
  have hPc := hP.sub (ws' := [(sc3, .inl (sck3, 36, .inl (fun _ => 0)))]) [1] rfl
  have hDc := hD.sub (ws' := [(sc3, .inl (sck3, 36, .inl (fun _ => 0)))]) [1] (by decide) rfl
  have hKc := hK.sub (tys' := [(sck3, .int)]) [0] rfl
  have hFc := va_free (wc := [(sc3, .inl (sck3, 36, .inl (fun _ => 0)))]) hD hS hA [1] rfl
  refine va_callv (va_runS (As := [.ref sc3, .int 0]) (rest := []) ⟨hx, hb, hml, hown, hts⟩ (j_fill_36 l dC dI sc3 sck3 (fun _ => 0) 0  H.size) (va_cwS 2 hts (gUS tw_488 tw_489 tw_14 tw_490) rfl rfl rfl (by decide +kernel) ⟨(Nat.le_of_ble_eq_true rfl), (Nat.le_of_ble_eq_true rfl)⟩) ⟨cPre.blind, cPre.use hPc hKc hDc hE⟩ rfl rfl hl.1 rfl (lv_room (Nat.le_of_ble_eq_true rfl)) dX0_clear_20 ⟨(Nat.le_of_ble_eq_true rfl), (Nat.le_of_ble_eq_true rfl)⟩) hS (fun q _ h => hFc q h) hFc (fun u t H1 locs ht hvm hw hB hz1 hk1 hS => ?_)
  obtain ⟨g_2, hP1, hK1, hD1⟩ := hB
  rw [ht] at hP1
  obtain ⟨hP, hD⟩ := va_join (wr := [(sc, .inr (0, [.int 0, .int 0, .int 0, .int 0, .int 0, .int 0, .ref sc0, .ref sc1, .ref sc2, .ref sc3, .ref sc4, .ref sc5, .ref sc6, .ref sc7, .ref sc8, .ref sc9])), (sc8, .inl (sck8, 49, .inl (fun _ => 0))), (sc9, .inl (sck9, 61, .inl (fun _ => 0)))]) (w1 := [(sc3, .inl (sck3, 36, .inl g_2))]) hP hD [1] [0, 2, 3] rfl rfl (by decide) (by decide) hk1 hFc hP1 hD1
  generalize H1 = H at hP hS ⊢
  have hP : va_P (dC, dI) vwCl [(sc, .inr (0, [.int 0, .int 0, .int 0, .int 0, .int 0, .int 0, .ref sc0, .ref sc1, .ref sc2, .ref sc3, .ref sc4, .ref sc5, .ref sc6, .ref sc7, .ref sc8, .ref sc9])), (sc8, .inl (sck8, 49, .inl (fun _ => 0))), (sc9, .inl (sck9, 61, .inl (fun _ => 0))), (sc3, .inl (sck3, 36, .inl g_2))] H := hP
  have hD : va_D A [(sc, .inr (0, [.int 0, .int 0, .int 0, .int 0, .int 0, .int 0, .ref sc0, .ref sc1, .ref sc2, .ref sc3, .ref sc4, .ref sc5, .ref sc6, .ref sc7, .ref sc8, .ref sc9])), (sc8, .inl (sck8, 49, .inl (fun _ => 0))), (sc9, .inl (sck9, 61, .inl (fun _ => 0))), (sc3, .inl (sck3, 36, .inl g_2))] := hD
  refine lv_aload_n hx hb dX0_clear_23 rfl (lv_at hl 0 rfl) ?_
  refine va_get (D := (dC, dI)) (ci := 0) (v := .ref sc8) (C := RX0) (T := TX0) (N := 16) hx hb hts iX0 hown hK hP 0 rfl rfl 14 (by decide) (hts _ tw_119) (fun _ h9 => h9) rfl dX0_clear_24 ?_
  refine lv_ldc (v := 1000000) hx hb hown (hts _ tw_491) dX0_clear_27 ?_
  have hPc := hP.sub (ws' := [(sc8, .inl (sck8, 49, .inl (fun _ => 0)))]) [1] rfl
  have hDc := hD.sub (ws' := [(sc8, .inl (sck8, 49, .inl (fun _ => 0)))]) [1] (by decide) rfl
  have hKc := hK.sub (tys' := [(sck8, .int)]) [1] rfl
  have hFc := va_free (wc := [(sc8, .inl (sck8, 49, .inl (fun _ => 0)))]) hD hS hA [1] rfl
  refine va_callv (va_runS (As := [.ref sc8, .int 1000000]) (rest := []) ⟨hx, hb, hml, hown, hts⟩ (j_fill_49 l dC dI sc8 sck8 (fun _ => 0) 1000000  H.size) (va_cwS 2 hts (gUS tw_488 tw_489 tw_14 tw_490) rfl rfl rfl (by decide +kernel) ⟨(Nat.le_of_ble_eq_true rfl), (Nat.le_of_ble_eq_true rfl)⟩) ⟨cPre.blind, cPre.use hPc hKc hDc hE⟩ rfl rfl hl.1 rfl (lv_room (Nat.le_of_ble_eq_true rfl)) dX0_clear_29 ⟨(Nat.le_of_ble_eq_true rfl), (Nat.le_of_ble_eq_true rfl)⟩) hS (fun q _ h => hFc q h) hFc (fun u t H1 locs ht hvm hw hB hz1 hk1 hS => ?_)
  obtain ⟨g_4, hP1, hK1, hD1⟩ := hB
  rw [ht] at hP1
  obtain ⟨hP, hD⟩ := va_join (wr := [(sc, .inr (0, [.int 0, .int 0, .int 0, .int 0, .int 0, .int 0, .ref sc0, .ref sc1, .ref sc2, .ref sc3, .ref sc4, .ref sc5, .ref sc6, .ref sc7, .ref sc8, .ref sc9])), (sc9, .inl (sck9, 61, .inl (fun _ => 0))), (sc3, .inl (sck3, 36, .inl g_2))]) (w1 := [(sc8, .inl (sck8, 49, .inl g_4))]) hP hD [1] [0, 2, 3] rfl rfl (by decide) (by decide) hk1 hFc hP1 hD1
  generalize H1 = H at hP hS ⊢
  have hP : va_P (dC, dI) vwCl [(sc, .inr (0, [.int 0, .int 0, .int 0, .int 0, .int 0, .int 0, .ref sc0, .ref sc1, .ref sc2, .ref sc3, .ref sc4, .ref sc5, .ref sc6, .ref sc7, .ref sc8, .ref sc9])), (sc9, .inl (sck9, 61, .inl (fun _ => 0))), (sc3, .inl (sck3, 36, .inl g_2)), (sc8, .inl (sck8, 49, .inl g_4))] H := hP
  have hD : va_D A [(sc, .inr (0, [.int 0, .int 0, .int 0, .int 0, .int 0, .int 0, .ref sc0, .ref sc1, .ref sc2, .ref sc3, .ref sc4, .ref sc5, .ref sc6, .ref sc7, .ref sc8, .ref sc9])), (sc9, .inl (sck9, 61, .inl (fun _ => 0))), (sc3, .inl (sck3, 36, .inl g_2)), (sc8, .inl (sck8, 49, .inl g_4))] := hD
  refine lv_iconst (v := 0) hx hb dX0_clear_32 (by decide) ?_
  refine lv_istore_n (lv' := [(1, .int 0), (0, .ref sc)]) hx hb dX0_clear_33 rfl hl (by decide) rfl (fun ls hl => ?_)
  refine loopW (N := 61) (fun (i_6 : Nat) (g : (Nat → Int32)) H locs ls => va_P (dC, dI) vwCl [(sc, .inr (0, [.int 0, .int 0, .int 0, .int 0, .int 0, .int 0, .ref sc0, .ref sc1, .ref sc2, .ref sc3, .ref sc4, .ref sc5, .ref sc6, .ref sc7, .ref sc8, .ref sc9])), (sc9, .inl (sck9, 61, .inl g)), (sc3, .inl (sck3, 36, .inl g_2)), (sc8, .inl (sck8, 49, .inl g_4))] H ∧ va_D A [(sc, .inr (0, [.int 0, .int 0, .int 0, .int 0, .int 0, .int 0, .ref sc0, .ref sc1, .ref sc2, .ref sc3, .ref sc4, .ref sc5, .ref sc6, .ref sc7, .ref sc8, .ref sc9])), (sc9, .inl (sck9, 61, .inl g)), (sc3, .inl (sck3, 36, .inl g_2)), (sc8, .inl (sck8, 49, .inl g_4))] ∧ va_S A s.heap H locs ∧ lv_has ls 2 [(1, .int (nI i_6)), (0, .ref sc)]) ?_ ((fun _ => 0)) _ _ _ ⟨hP, hD, hS, lv_sub hl [0, 1] rfl⟩
  intro i_6 f_5 H locs ls hi_i_6 ⟨hP, hD, hS, hl⟩ ih_i_6
  refine lv_iload_n hx hb dX0_clear_34 rfl (lv_at hl 0 rfl) ?_
  refine lv_aload_n hx hb dX0_clear_35 rfl (lv_at hl 1 rfl) ?_
  refine va_get (D := (dC, dI)) (ci := 0) (v := .ref sc9) (C := RX0) (T := TX0) (N := 16) hx hb hts iX0 hown hK hP 0 rfl rfl 15 (by decide) (hts _ tw_120) (fun _ h9 => h9) rfl dX0_clear_36 ?_
  refine va_alen (v := 61) hx hb hK hP 1 2 rfl rfl rfl dX0_clear_39 ?_
  refine lv_icmp_ge (tgt := 56) hx hb dX0_clear_40 (by decide) (fun c_7 => ?_) (fun c_7 => ?_)
  · have hP9 := hP.sub (ws' := [(sc, .inr (0, [.int 0, .int 0, .int 0, .int 0, .int 0, .int 0, .ref sc0, .ref sc1, .ref sc2, .ref sc3, .ref sc4, .ref sc5, .ref sc6, .ref sc7, .ref sc8, .ref sc9]))]) [0] rfl
    have hD9 := hD.sub (ws' := [(sc, .inr (0, [.int 0, .int 0, .int 0, .int 0, .int 0, .int 0, .ref sc0, .ref sc1, .ref sc2, .ref sc3, .ref sc4, .ref sc5, .ref sc6, .ref sc7, .ref sc8, .ref sc9]))]) [0] (by decide) rfl
    have hK9 := hK.sub (tys' := []) [] rfl
    refine W.widen (k := 0) (n := 0) (Nat.le_of_ble_eq_true rfl) (Nat.le_of_ble_eq_true rfl) ?_
    exact W.vret hx hb hr (fun t ht hW => ⟨⟨(), rfl, trivial, ⟨by rw [ht]; exact hP9, va_K.moved hW.alike hK9, hD9⟩⟩, hS.F ht⟩) hS.2.2 dX0_clear_56
  · have hlt_i_6 : i_6 < 61 := lt_of_nle (k := 61) ⟨rfl, by decide⟩ c_7 hi_i_6
    refine lv_aload_n hx hb dX0_clear_43 rfl (lv_at hl 1 rfl) ?_
    refine va_get (D := (dC, dI)) (ci := 0) (v := .ref sc9) (C := RX0) (T := TX0) (N := 16) hx hb hts iX0 hown hK hP 0 rfl rfl 15 (by decide) (hts _ tw_120) (fun _ h9 => h9) rfl dX0_clear_44 ?_
    refine lv_iload_n hx hb dX0_clear_47 rfl (lv_at hl 0 rfl) ?_
    refine lv_iconst (v := 0) hx hb dX0_clear_48 (by decide) ?_
    refine va_zast hx hb hK hP hD hS 1 2 rfl rfl (vp_in_nI (by omega) (by decide)) dX0_clear_49 (fun H locs hP hD hS => ?_)
    have hP : va_P (dC, dI) vwCl [(sc, .inr (0, [.int 0, .int 0, .int 0, .int 0, .int 0, .int 0, .ref sc0, .ref sc1, .ref sc2, .ref sc3, .ref sc4, .ref sc5, .ref sc6, .ref sc7, .ref sc8, .ref sc9])), (sc9, .inl (sck9, 61, .inl (upd f_5 (Int32.toNatClampNeg (nI i_6)) (vp_nar .boolean 0)))), (sc3, .inl (sck3, 36, .inl g_2)), (sc8, .inl (sck8, 49, .inl g_4))] H := hP
    have hD : va_D A [(sc, .inr (0, [.int 0, .int 0, .int 0, .int 0, .int 0, .int 0, .ref sc0, .ref sc1, .ref sc2, .ref sc3, .ref sc4, .ref sc5, .ref sc6, .ref sc7, .ref sc8, .ref sc9])), (sc9, .inl (sck9, 61, .inl (upd f_5 (Int32.toNatClampNeg (nI i_6)) (vp_nar .boolean 0)))), (sc3, .inl (sck3, 36, .inl g_2)), (sc8, .inl (sck8, 49, .inl g_4))] := hD
    generalize upd f_5 (Int32.toNatClampNeg (nI i_6)) (vp_nar .boolean 0) = f_8 at hP hD
    refine lv_iinc (v := nI (i_6 + 1)) (lv' := [(1, .int (nI (i_6 + 1))), (0, .ref sc)]) hx hb dX0_clear_50 hl (k := 0) rfl (nI_1 _) (by decide) rfl (fun ls hl => ?_)
    refine lv_goto (tgt := 34) hx hb dX0_clear_53 (by decide) ?_
    exact ih_i_6 f_8 _ _ _ hlt_i_6 ⟨hP, hD, hS, lv_sub hl [0, 1] rfl⟩
set_option maxHeartbeats 4000000 in
set_option maxRecDepth 100000 in
theorem c_moveTo (l : Launch) (dC : Nat → ClassId) (dI : Nat → Nat → Nat) (tp : Nat) (tb : Nat) (sz : Nat) : Met l yX9_moveTo (ws_u yX9_moveTo cX9_moveTo 2 none) ({ frames := 0, cells := 0, slots := 0, locals := 0 }) (va_Pc [.ref tp, .int 0] (cPre (dC, dI) [] [(tp, .inr (9, [.ref tb, .int 0, .int 0, .int 0]))] sz)) (va_Qv (fun _ : Unit => True) (fun _ t => cPost (dC, dI) [] [(tp, .inr (9, [.ref tb, .int 0, .int 0, .int 0]))] (va_A [(tp, .inr (9, [.ref tb, .int 0, .int 0, .int 0]))] sz) t) (va_A [(tp, .inr (9, [.ref tb, .int 0, .int 0, .int 0]))] sz)) 0 0 (va_A [(tp, .inr (9, [.ref tb, .int 0, .int 0, .int 0]))] sz) := by
  refine Met.ofW (cc := cX9_moveTo) (maxL := 2) (ret := none) (by decide) rfl ?_
  intro p e s m args below meth c s₁ B hml hv
  obtain ⟨rfl, hsz, hP, hK, hD0, hE⟩ := hv
  have hx := B.exec
  have hb := B.bytes
  have hr := B.returns
  have hts0 := atoms_spec (ws := ws_u yX9_moveTo cX9_moveTo 2 none) B.pre
  have hts : ∀ w ∈ gT, w.before _ s = true := fun w h => hts0 w (List.mem_cons_of_mem _ h)
  have hown : s.vm.findClass RX9 = some m.cls := findClass_of_methodNamed B.named
  have hlocks := B.notSynchronized
  subst hsz
  have hD := hD0.self (sz := s.heap.size)
  generalize hAe : va_A [(tp, .inr (9, [.ref tb, .int 0, .int 0, .int 0]))] s.heap.size = A at hD ⊢
  have hA : ∀ q : Nat, s.heap.size ≤ q → A q := fun q h => by rw [← hAe]; exact Or.inr h
  have hS : va_S A s.heap s.heap [] := va_S.rf
  have hl := lv_entry ([.ref tp, .int 0]) (n := 2) (Nat.le_of_ble_eq_true rfl)
  rw [lg_entry_eq]
  generalize (lg_sl ([.ref tp, .int 0]) ++ List.replicate (2 - (lg_sl ([.ref tp, .int 0])).length) Slot.unset).toArray = ls at hl ⊢
  have hl : lv_has ls 2 [(0, .ref tp), (1, .int 0)] := hl
  have hP : va_P (dC, dI) vwCl [(tp, .inr (9, [.ref tb, .int 0, .int 0, .int 0]))] s.heap := hP
  try clear hAe
  refine lv_aload_n hx hb dX9_moveTo_0 rfl (lv_at hl 0 rfl) ?_
  refine lv_iload_n hx hb dX9_moveTo_1 rfl (lv_at hl 1 rfl) ?_
  refine va_put (D := (dC, dI)) (ci := 9) (v := .int 0) (C := RX9) (T := TX9) (N := 4) hx hb hts iX9 tyX9 tyX9_ok nmX9 hown hK hP hD hS 0 rfl rfl 2 (by decide) (hts _ tw_41) (fun _ h9 => h9) rfl (tyX9_ok 2 (by decide)) rfl rfl (Nat.le_of_ble_eq_true rfl) dX9_moveTo_2 (fun H locs hP hD hS => ?_)
  have hP : va_P (dC, dI) vwCl [(tp, .inr (9, [.ref tb, .int 0, .int 0, .int 0]))] H := hP
  have hD : va_D A [(tp, .inr (9, [.ref tb, .int 0, .int 0, .int 0]))] := hD
  refine lv_aload_n hx hb dX9_moveTo_5 rfl (lv_at hl 0 rfl) ?_
  refine va_get (D := (dC, dI)) (ci := 9) (v := .int 0) (C := RX9) (T := TX9) (N := 4) hx hb hts iX9 hown hK hP 0 rfl rfl 2 (by decide) (hts _ tw_41) (fun _ h9 => h9) rfl dX9_moveTo_6 ?_
  refine lv_aload_n hx hb dX9_moveTo_9 rfl (lv_at hl 0 rfl) ?_
  refine va_get (D := (dC, dI)) (ci := 9) (v := .int 0) (C := RX9) (T := TX9) (N := 4) hx hb hts iX9 hown hK hP 0 rfl rfl 1 (by decide) (hts _ tw_37) (fun _ h9 => h9) rfl dX9_moveTo_10 ?_
  refine lv_icmp_ge (tgt := 43) hx hb dX9_moveTo_13 (by decide) (fun c_1 => ?_) (fun c_1 => absurd (by decide) c_1)
  have hP9 := hP.sub (ws' := [(tp, .inr (9, [.ref tb, .int 0, .int 0, .int 0]))]) [0] rfl
  have hD9 := hD.sub (ws' := [(tp, .inr (9, [.ref tb, .int 0, .int 0, .int 0]))]) [0] (by decide) rfl
  have hK9 := hK.sub (tys' := []) [] rfl
  refine W.widen (k := 0) (n := 0) (Nat.le_of_ble_eq_true rfl) (Nat.le_of_ble_eq_true rfl) ?_
  exact W.vret hx hb hr (fun t ht hW => ⟨⟨(), rfl, trivial, ⟨by rw [ht]; exact hP9, va_K.moved hW.alike hK9, hD9⟩⟩, hS.F ht⟩) hS.2.2 dX9_moveTo_43
set_option maxHeartbeats 4000000 in
set_option maxRecDepth 100000 in
theorem c_startReading (l : Launch) (dC : Nat → ClassId) (dI : Nat → Nat → Nat) (tp : Nat) (tb : Nat) (sz : Nat) : Met l yX9_startReading (ws_u yX9_startReading cX9_startReading 1 none) ({ frames := 1, cells := 0, slots := 0, locals := 21 }) (va_Pc [.ref tp] (cPre (dC, dI) [] [(tp, .inr (9, [.ref tb, .int 0, .int 0, .int 0]))] sz)) (va_Qv (fun _ : Unit => True) (fun _ t => cPost (dC, dI) [] [(tp, .inr (9, [.ref tb, .int 0, .int 0, .int 0]))] (va_A [(tp, .inr (9, [.ref tb, .int 0, .int 0, .int 0]))] sz) t) (va_A [(tp, .inr (9, [.ref tb, .int 0, .int 0, .int 0]))] sz)) 0 0 (va_A [(tp, .inr (9, [.ref tb, .int 0, .int 0, .int 0]))] sz) := by
  refine Met.ofW (cc := cX9_startReading) (maxL := 1) (ret := none) (by decide) rfl ?_
  intro p e s m args below meth c s₁ B hml hv
  obtain ⟨rfl, hsz, hP, hK, hD0, hE⟩ := hv
  have hx := B.exec
  have hb := B.bytes
  have hr := B.returns
  have hts0 := atoms_spec (ws := ws_u yX9_startReading cX9_startReading 1 none) B.pre
  have hts : ∀ w ∈ gT, w.before _ s = true := fun w h => hts0 w (List.mem_cons_of_mem _ h)
  have hown : s.vm.findClass RX9 = some m.cls := findClass_of_methodNamed B.named
  have hlocks := B.notSynchronized
  subst hsz
  have hD := hD0.self (sz := s.heap.size)
  generalize hAe : va_A [(tp, .inr (9, [.ref tb, .int 0, .int 0, .int 0]))] s.heap.size = A at hD ⊢
  have hA : ∀ q : Nat, s.heap.size ≤ q → A q := fun q h => by rw [← hAe]; exact Or.inr h
  have hS : va_S A s.heap s.heap [] := va_S.rf
  have hl := lv_entry ([.ref tp]) (n := 1) (Nat.le_of_ble_eq_true rfl)
  rw [lg_entry_eq]
  generalize (lg_sl ([.ref tp]) ++ List.replicate (1 - (lg_sl ([.ref tp])).length) Slot.unset).toArray = ls at hl ⊢
  have hl : lv_has ls 1 [(0, .ref tp)] := hl
  have hP : va_P (dC, dI) vwCl [(tp, .inr (9, [.ref tb, .int 0, .int 0, .int 0]))] s.heap := hP
  try clear hAe
  refine lv_aload_n hx hb dX9_startReading_0 rfl (lv_at hl 0 rfl) ?_
  refine lv_iconst (v := 0) hx hb dX9_startReading_1 (by decide) ?_
  refine va_put (D := (dC, dI)) (ci := 9) (v := .int 0) (C := RX9) (T := TX9) (N := 4) hx hb hts iX9 tyX9 tyX9_ok nmX9 hown hK hP hD hS 0 rfl rfl 3 (by decide) (hts _ tw_44) (fun _ h9 => h9) rfl (tyX9_ok 3 (by decide)) rfl rfl (Nat.le_of_ble_eq_true rfl) dX9_startReading_2 (fun H locs hP hD hS => ?_)
  have hP : va_P (dC, dI) vwCl [(tp, .inr (9, [.ref tb, .int 0, .int 0, .int 0]))] H := hP
  have hD : va_D A [(tp, .inr (9, [.ref tb, .int 0, .int 0, .int 0]))] := hD
  refine lv_aload_n hx hb dX9_startReading_5 rfl (lv_at hl 0 rfl) ?_
  refine lv_iconst (v := 0) hx hb dX9_startReading_6 (by decide) ?_
  have hPc := hP.sub (ws' := [(tp, .inr (9, [.ref tb, .int 0, .int 0, .int 0]))]) [0] rfl
  have hDc := hD.sub (ws' := [(tp, .inr (9, [.ref tb, .int 0, .int 0, .int 0]))]) [0] (by decide) rfl
  have hKc := hK.sub (tys' := []) [] rfl
  have hFc := va_free (wc := [(tp, .inr (9, [.ref tb, .int 0, .int 0, .int 0]))]) hD hS hA [0] rfl
  refine va_callv (va_runV (As := [.int 0]) (rest := []) ⟨hx, hb, hml, hown, hts⟩ (c_moveTo l dC dI tp tb  H.size) (cwV 1 hts (gUV tw_496 tw_498 ts_0_0 tw_2 tw_499) rfl rfl rfl (by decide +kernel) ⟨(Nat.le_of_ble_eq_true rfl), (Nat.le_of_ble_eq_true rfl)⟩) ⟨cPre.blind, va_recv hKc hPc (ci := 9) (q0 := 0) rfl rfl, cPre.use hPc hKc hDc hE⟩ rfl rfl hl.1 rfl (lv_room (Nat.le_of_ble_eq_true rfl)) dX9_startReading_7 ⟨(Nat.le_of_ble_eq_true rfl), (Nat.le_of_ble_eq_true rfl)⟩) hS (fun q _ h => hFc q h) hFc (fun u t H1 locs ht hvm hw hB hz1 hk1 hS => ?_)
  obtain ⟨hP1, hK1, hD1⟩ := hB
  rw [ht] at hP1
  obtain ⟨hP, hD⟩ := va_join (wr := []) (w1 := [(tp, .inr (9, [.ref tb, .int 0, .int 0, .int 0]))]) hP hD [0] [] rfl rfl (by decide) (by decide) hk1 hFc hP1 hD1
  generalize H1 = H at hP hS ⊢
  have hP : va_P (dC, dI) vwCl [(tp, .inr (9, [.ref tb, .int 0, .int 0, .int 0]))] H := hP
  have hD : va_D A [(tp, .inr (9, [.ref tb, .int 0, .int 0, .int 0]))] := hD
  have hP9 := hP.sub (ws' := [(tp, .inr (9, [.ref tb, .int 0, .int 0, .int 0]))]) [0] rfl
  have hD9 := hD.sub (ws' := [(tp, .inr (9, [.ref tb, .int 0, .int 0, .int 0]))]) [0] (by decide) rfl
  have hK9 := hK.sub (tys' := []) [] rfl
  refine W.widen (k := 0) (n := 0) (Nat.le_of_ble_eq_true rfl) (Nat.le_of_ble_eq_true rfl) ?_
  exact W.vret hx hb hr (fun t ht hW => ⟨⟨(), rfl, trivial, ⟨by rw [ht]; exact hP9, va_K.moved hW.alike hK9, hD9⟩⟩, hS.F ht⟩) hS.2.2 dX9_startReading_10
set_option maxHeartbeats 4000000 in
set_option maxRecDepth 100000 in
theorem c_fail_0 (l : Launch) (dC : Nat → ClassId) (dI : Nat → Nat → Nat) (tp : Nat) (tb : Nat) (sz : Nat) : Met l yX9_fail (ws_u yX9_fail cX9_fail 3 none) ({ frames := 0, cells := 0, slots := 0, locals := 0 }) (va_Pc [.ref tp, .int 0, .int 0] (cPre (dC, dI) [] [(tp, .inr (9, [.ref tb, .int 0, .int 0, .int 0]))] sz)) (va_Qv (fun _ : Unit => True) (fun _ t => cPost (dC, dI) [] [(tp, .inr (9, [.ref tb, .int 0, .int 0, .int 1]))] (va_A [(tp, .inr (9, [.ref tb, .int 0, .int 0, .int 0]))] sz) t) (va_A [(tp, .inr (9, [.ref tb, .int 0, .int 0, .int 0]))] sz)) 0 0 (va_A [(tp, .inr (9, [.ref tb, .int 0, .int 0, .int 0]))] sz) := by
  refine Met.ofW (cc := cX9_fail) (maxL := 3) (ret := none) (by decide) rfl ?_
  intro p e s m args below meth c s₁ B hml hv
  obtain ⟨rfl, hsz, hP, hK, hD0, hE⟩ := hv
  have hx := B.exec
  have hb := B.bytes
  have hr := B.returns
  have hts0 := atoms_spec (ws := ws_u yX9_fail cX9_fail 3 none) B.pre
  have hts : ∀ w ∈ gT, w.before _ s = true := fun w h => hts0 w (List.mem_cons_of_mem _ h)
  have hown : s.vm.findClass RX9 = some m.cls := findClass_of_methodNamed B.named
  have hlocks := B.notSynchronized
  subst hsz
  have hD := hD0.self (sz := s.heap.size)
  generalize hAe : va_A [(tp, .inr (9, [.ref tb, .int 0, .int 0, .int 0]))] s.heap.size = A at hD ⊢
  have hA : ∀ q : Nat, s.heap.size ≤ q → A q := fun q h => by rw [← hAe]; exact Or.inr h
  have hS : va_S A s.heap s.heap [] := va_S.rf
  have hl := lv_entry ([.ref tp, .int 0, .int 0]) (n := 3) (Nat.le_of_ble_eq_true rfl)
  rw [lg_entry_eq]
  generalize (lg_sl ([.ref tp, .int 0, .int 0]) ++ List.replicate (3 - (lg_sl ([.ref tp, .int 0, .int 0])).length) Slot.unset).toArray = ls at hl ⊢
  have hl : lv_has ls 3 [(0, .ref tp), (1, .int 0), (2, .int 0)] := hl
  have hP : va_P (dC, dI) vwCl [(tp, .inr (9, [.ref tb, .int 0, .int 0, .int 0]))] s.heap := hP
  try clear hAe
  refine lv_aload_n hx hb dX9_fail_0 rfl (lv_at hl 0 rfl) ?_
  refine va_get (D := (dC, dI)) (ci := 9) (v := .int 0) (C := RX9) (T := TX9) (N := 4) hx hb hts iX9 hown hK hP 0 rfl rfl 3 (by decide) (hts _ tw_44) (fun _ h9 => h9) rfl dX9_fail_1 ?_
  refine lv_if_ne (tgt := 19) hx hb dX9_fail_4 (by decide) (fun c_1 => absurd (by decide) c_1) (fun c_1 => ?_)
  refine lv_aload_n hx hb dX9_fail_7 rfl (lv_at hl 0 rfl) ?_
  refine lv_iconst (v := 1) hx hb dX9_fail_8 (by decide) ?_
  refine lv_bipush (v := 8) hx hb dX9_fail_9 (by decide) ?_
  refine lv_iload_n hx hb dX9_fail_11 rfl (lv_at hl 1 rfl) ?_
  refine lv_imul hx hb dX9_fail_12 ?_
  refine lv_topi (fun x_2 ex_2 => ?_)
  obtain rfl : x_2 = 0 := ex_2.trans (by decide)
  refine lv_iadd hx hb dX9_fail_13 ?_
  refine lv_topi (fun x_3 ex_3 => ?_)
  obtain rfl : x_3 = 1 := ex_3.trans (by decide)
  refine lv_iload_n hx hb dX9_fail_14 rfl (lv_at hl 2 rfl) ?_
  refine lv_iadd hx hb dX9_fail_15 ?_
  refine lv_topi (fun x_4 ex_4 => ?_)
  obtain rfl : x_4 = 1 := ex_4.trans (by decide)
  refine va_put (D := (dC, dI)) (ci := 9) (v := .int 1) (C := RX9) (T := TX9) (N := 4) hx hb hts iX9 tyX9 tyX9_ok nmX9 hown hK hP hD hS 0 rfl rfl 3 (by decide) (hts _ tw_44) (fun _ h9 => h9) rfl (tyX9_ok 3 (by decide)) rfl rfl (Nat.le_of_ble_eq_true rfl) dX9_fail_16 (fun H locs hP hD hS => ?_)
  have hP : va_P (dC, dI) vwCl [(tp, .inr (9, [.ref tb, .int 0, .int 0, .int 1]))] H := hP
  have hD : va_D A [(tp, .inr (9, [.ref tb, .int 0, .int 0, .int 1]))] := hD
  have hP9 := hP.sub (ws' := [(tp, .inr (9, [.ref tb, .int 0, .int 0, .int 1]))]) [0] rfl
  have hD9 := hD.sub (ws' := [(tp, .inr (9, [.ref tb, .int 0, .int 0, .int 1]))]) [0] (by decide) rfl
  have hK9 := hK.sub (tys' := []) [] rfl
  refine W.widen (k := 0) (n := 0) (Nat.le_of_ble_eq_true rfl) (Nat.le_of_ble_eq_true rfl) ?_
  exact W.vret hx hb hr (fun t ht hW => ⟨⟨(), rfl, trivial, ⟨by rw [ht]; exact hP9, va_K.moved hW.alike hK9, hD9⟩⟩, hS.F ht⟩) hS.2.2 dX9_fail_19
set_option maxHeartbeats 4000000 in
set_option maxRecDepth 100000 in
theorem c_fail_1 (l : Launch) (dC : Nat → ClassId) (dI : Nat → Nat → Nat) (tp : Nat) (tb : Nat) (sz : Nat) : Met l yX9_fail (ws_u yX9_fail cX9_fail 3 none) ({ frames := 0, cells := 0, slots := 0, locals := 0 }) (va_Pc [.ref tp, .int 0, .int 0] (cPre (dC, dI) [] [(tp, .inr (9, [.ref tb, .int 0, .int 0, .int 1]))] sz)) (va_Qv (fun _ : Unit => True) (fun _ t => cPost (dC, dI) [] [(tp, .inr (9, [.ref tb, .int 0, .int 0, .int 1]))] (va_A [(tp, .inr (9, [.ref tb, .int 0, .int 0, .int 1]))] sz) t) (va_A [(tp, .inr (9, [.ref tb, .int 0, .int 0, .int 1]))] sz)) 0 0 (va_A [(tp, .inr (9, [.ref tb, .int 0, .int 0, .int 1]))] sz) := by
  refine Met.ofW (cc := cX9_fail) (maxL := 3) (ret := none) (by decide) rfl ?_
  intro p e s m args below meth c s₁ B hml hv
  obtain ⟨rfl, hsz, hP, hK, hD0, hE⟩ := hv
  have hx := B.exec
  have hb := B.bytes
  have hr := B.returns
  have hts0 := atoms_spec (ws := ws_u yX9_fail cX9_fail 3 none) B.pre
  have hts : ∀ w ∈ gT, w.before _ s = true := fun w h => hts0 w (List.mem_cons_of_mem _ h)
  have hown : s.vm.findClass RX9 = some m.cls := findClass_of_methodNamed B.named
  have hlocks := B.notSynchronized
  subst hsz
  have hD := hD0.self (sz := s.heap.size)
  generalize hAe : va_A [(tp, .inr (9, [.ref tb, .int 0, .int 0, .int 1]))] s.heap.size = A at hD ⊢
  have hA : ∀ q : Nat, s.heap.size ≤ q → A q := fun q h => by rw [← hAe]; exact Or.inr h
  have hS : va_S A s.heap s.heap [] := va_S.rf
  have hl := lv_entry ([.ref tp, .int 0, .int 0]) (n := 3) (Nat.le_of_ble_eq_true rfl)
  rw [lg_entry_eq]
  generalize (lg_sl ([.ref tp, .int 0, .int 0]) ++ List.replicate (3 - (lg_sl ([.ref tp, .int 0, .int 0])).length) Slot.unset).toArray = ls at hl ⊢
  have hl : lv_has ls 3 [(0, .ref tp), (1, .int 0), (2, .int 0)] := hl
  have hP : va_P (dC, dI) vwCl [(tp, .inr (9, [.ref tb, .int 0, .int 0, .int 1]))] s.heap := hP
  try clear hAe
  refine lv_aload_n hx hb dX9_fail_0 rfl (lv_at hl 0 rfl) ?_
  refine va_get (D := (dC, dI)) (ci := 9) (v := .int 1) (C := RX9) (T := TX9) (N := 4) hx hb hts iX9 hown hK hP 0 rfl rfl 3 (by decide) (hts _ tw_44) (fun _ h9 => h9) rfl dX9_fail_1 ?_
  refine lv_if_ne (tgt := 19) hx hb dX9_fail_4 (by decide) (fun c_1 => ?_) (fun c_1 => absurd c_1 (by decide))
  have hP9 := hP.sub (ws' := [(tp, .inr (9, [.ref tb, .int 0, .int 0, .int 1]))]) [0] rfl
  have hD9 := hD.sub (ws' := [(tp, .inr (9, [.ref tb, .int 0, .int 0, .int 1]))]) [0] (by decide) rfl
  have hK9 := hK.sub (tys' := []) [] rfl
  refine W.widen (k := 0) (n := 0) (Nat.le_of_ble_eq_true rfl) (Nat.le_of_ble_eq_true rfl) ?_
  exact W.vret hx hb hr (fun t ht hW => ⟨⟨(), rfl, trivial, ⟨by rw [ht]; exact hP9, va_K.moved hW.alike hK9, hD9⟩⟩, hS.F ht⟩) hS.2.2 dX9_fail_19
set_option maxHeartbeats 4000000 in
set_option maxRecDepth 100000 in
theorem c_takeWord_0 (l : Launch) (dC : Nat → ClassId) (dI : Nat → Nat → Nat) (aK aV : Nat → Nat) (tp : Nat) (tb : Nat) (sz : Nat) : Met l yX9_takeWord (ws_u yX9_takeWord cX9_takeWord 6 (some .int)) ({ frames := 4, cells := 0, slots := 0, locals := 85 }) (va_Pc [.ref tp, .ref (aK 0)] (cPreS (dC, dI) aK aV [] [(tp, .inr (9, [.ref tb, .int 0, .int 0, .int 0]))] sz)) (va_Qi (fun (r : Int32) (_ : Unit) => r = (-1)) (fun _ t => cPost (dC, dI) [] [(tp, .inr (9, [.ref tb, .int 0, .int 0, .int 0]))] (va_A [(tp, .inr (9, [.ref tb, .int 0, .int 0, .int 0]))] sz) t) (va_A [(tp, .inr (9, [.ref tb, .int 0, .int 0, .int 0]))] sz)) 0 0 (va_A [(tp, .inr (9, [.ref tb, .int 0, .int 0, .int 0]))] sz) := by
  refine Met.ofW (cc := cX9_takeWord) (maxL := 6) (ret := (some .int)) (by decide) rfl ?_
  intro p e s m args below meth c s₁ B hml hv
  obtain ⟨rfl, ⟨hsz, hP, hK, hD0, hE⟩, hStr, hR⟩ := hv
  have hx := B.exec
  have hb := B.bytes
  have hr := B.returns
  have hts0 := atoms_spec (ws := ws_u yX9_takeWord cX9_takeWord 6 (some .int)) B.pre
  have hts : ∀ w ∈ gT, w.before _ s = true := fun w h => hts0 w (List.mem_cons_of_mem _ h)
  have hown : s.vm.findClass RX9 = some m.cls := findClass_of_methodNamed B.named
  have hlocks := B.notSynchronized
  subst hsz
  have hD := hD0.self (sz := s.heap.size)
  generalize hAe : va_A [(tp, .inr (9, [.ref tb, .int 0, .int 0, .int 0]))] s.heap.size = A at hD hStr ⊢
  have hA : ∀ q : Nat, s.heap.size ≤ q → A q := fun q h => by rw [← hAe]; exact Or.inr h
  have hS : va_S A s.heap s.heap [] := va_S.rf
  have hl := lv_entry ([.ref tp, .ref (aK 0)]) (n := 6) (Nat.le_of_ble_eq_true rfl)
  rw [lg_entry_eq]
  generalize (lg_sl ([.ref tp, .ref (aK 0)]) ++ List.replicate (6 - (lg_sl ([.ref tp, .ref (aK 0)])).length) Slot.unset).toArray = ls at hl ⊢
  have hl : lv_has ls 6 [(0, .ref tp), (1, .ref (aK 0))] := hl
  have hP : va_P (dC, dI) vwCl [(tp, .inr (9, [.ref tb, .int 0, .int 0, .int 0]))] s.heap := hP
  try clear hAe
  refine lv_aload_n hx hb dX9_takeWord_0 rfl (lv_at hl 0 rfl) ?_
  refine va_get (D := (dC, dI)) (ci := 9) (v := .int 0) (C := RX9) (T := TX9) (N := 4) hx hb hts iX9 hown hK hP 0 rfl rfl 2 (by decide) (hts _ tw_41) (fun _ h9 => h9) rfl dX9_takeWord_1 ?_
  refine lv_istore_n (lv' := [(2, .int 0), (0, .ref tp), (1, .ref (aK 0))]) hx hb dX9_takeWord_4 rfl hl (by decide) rfl (fun ls hl => ?_)
  refine lv_iload_n hx hb dX9_takeWord_5 rfl (lv_at hl 0 rfl) ?_
  refine lv_aload_n hx hb dX9_takeWord_6 rfl (lv_at hl 1 rfl) ?_
  refine va_get (D := (dC, dI)) (ci := 9) (v := .int 0) (C := RX9) (T := TX9) (N := 4) hx hb hts iX9 hown hK hP 0 rfl rfl 1 (by decide) (hts _ tw_37) (fun _ h9 => h9) rfl dX9_takeWord_7 ?_
  refine lv_icmp_ge (tgt := 41) hx hb dX9_takeWord_10 (by decide) (fun c_1 => ?_) (fun c_1 => absurd (by decide) c_1)
  refine lv_iconst (v := 0) hx hb dX9_takeWord_41 (by decide) ?_
  refine lv_istore_n (lv' := [(3, .int 0), (2, .int 0), (0, .ref tp), (1, .ref (aK 0))]) hx hb dX9_takeWord_42 rfl hl (by decide) rfl (fun ls hl => ?_)
  refine lv_iconst (v := 0) hx hb dX9_takeWord_43 (by decide) ?_
  refine lv_istore (lv' := [(4, .int 0), (3, .int 0), (2, .int 0), (0, .ref tp), (1, .ref (aK 0))]) hx hb dX9_takeWord_44 hl (by decide) rfl (fun ls hl => ?_)
  refine lv_iconst (v := 0) hx hb dX9_takeWord_46 (by decide) ?_
  refine lv_istore (lv' := [(5, .int 0), (4, .int 0), (3, .int 0), (2, .int 0), (0, .ref tp), (1, .ref (aK 0))]) hx hb dX9_takeWord_47 hl (by decide) rfl (fun ls hl => ?_)
  refine lv_iload hx hb dX9_takeWord_49 (lv_at hl 0 rfl) ?_
  refine lv_aload_n hx hb dX9_takeWord_51 rfl (lv_at hl 5 rfl) ?_
  have hPc := hP.sub (ws' := []) [] rfl
  have hDc := hD.sub (ws' := []) [] (by decide) rfl
  have hKc := hK.sub (tys' := []) [] rfl
  have hFc := va_free (wc := []) hD hS hA [] rfl
  refine va_calli (va_runV (As := []) (rest := [.int 0]) ⟨hx, hb, hml, hown, hts⟩ (s_length l dC dI aK aV 0 (by decide) s.heap.size) (cwV 0 hts (gUV tw_509 tw_510 tw_511 tw_15 tw_512) rfl rfl rfl (by decide +kernel) ⟨(Nat.le_of_ble_eq_true rfl), (Nat.le_of_ble_eq_true rfl)⟩) ⟨cPreS.blind, vk_recv hStr.1 (i := 0) (by decide) hS, cPreS.use hPc hKc hDc hE hStr hR hS hFc⟩ rfl rfl hl.1 rfl (lv_room (Nat.le_of_ble_eq_true rfl)) dX9_takeWord_52 ⟨(Nat.le_of_ble_eq_true rfl), (Nat.le_of_ble_eq_true rfl)⟩) hS (fun q _ h => hFc q h) hFc (fun r_2 u t H1 locs ht hvm hw hB hz1 hk1 hS => ?_)
  obtain ⟨hP, hD⟩ := va_join (wr := [(tp, .inr (9, [.ref tb, .int 0, .int 0, .int 0]))]) (w1 := []) hP hD [] [0] rfl rfl (by decide) (by decide) hk1 hFc (va_P_nil _ _ _) (va_D_nil _)
  generalize H1 = H at hP hS ⊢
  have hP : va_P (dC, dI) vwCl [(tp, .inr (9, [.ref tb, .int 0, .int 0, .int 0]))] H := hP
  have hD : va_D A [(tp, .inr (9, [.ref tb, .int 0, .int 0, .int 0]))] := hD
  obtain rfl : r_2 = 36 := hw.trans (by decide)
  refine lv_icmp_ge (tgt := 127) hx hb dX9_takeWord_55 (by decide) (fun c_3 => absurd c_3 (by decide)) (fun c_3 => ?_)
  refine lv_aload_n hx hb dX9_takeWord_58 rfl (lv_at hl 4 rfl) ?_
  refine va_get (D := (dC, dI)) (ci := 9) (v := .int 0) (C := RX9) (T := TX9) (N := 4) hx hb hts iX9 hown hK hP 0 rfl rfl 3 (by decide) (hts _ tw_44) (fun _ h9 => h9) rfl dX9_takeWord_59 ?_
  refine lv_if_ne (tgt := 127) hx hb dX9_takeWord_62 (by decide) (fun c_4 => absurd (by decide) c_4) (fun c_4 => ?_)
  refine lv_aload_n hx hb dX9_takeWord_65 rfl (lv_at hl 5 rfl) ?_
  refine lv_iload hx hb dX9_takeWord_66 (lv_at hl 0 rfl) ?_
  have hPc := hP.sub (ws' := []) [] rfl
  have hDc := hD.sub (ws' := []) [] (by decide) rfl
  have hKc := hK.sub (tys' := []) [] rfl
  have hFc := va_free (wc := []) hD hS hA [] rfl
  refine va_calli (va_runV (As := [.int 0]) (rest := []) ⟨hx, hb, hml, hown, hts⟩ (s_charAt l dC dI aK aV 0 0 (by decide) (by decide) H.size) (cwV 1 hts (gUV tw_519 tw_520 tw_521 tw_15 tw_522) rfl rfl rfl (by decide +kernel) ⟨(Nat.le_of_ble_eq_true rfl), (Nat.le_of_ble_eq_true rfl)⟩) ⟨cPreS.blind, vk_recv hStr.1 (i := 0) (by decide) hS, cPreS.use hPc hKc hDc hE hStr hR hS hFc⟩ rfl rfl hl.1 rfl (lv_room (Nat.le_of_ble_eq_true rfl)) dX9_takeWord_68 ⟨(Nat.le_of_ble_eq_true rfl), (Nat.le_of_ble_eq_true rfl)⟩) hS (fun q _ h => hFc q h) hFc (fun r_5 u t H1 locs ht hvm hw hB hz1 hk1 hS => ?_)
  obtain ⟨hP, hD⟩ := va_join (wr := [(tp, .inr (9, [.ref tb, .int 0, .int 0, .int 0]))]) (w1 := []) hP hD [] [0] rfl rfl (by decide) (by decide) hk1 hFc (va_P_nil _ _ _) (va_D_nil _)
  generalize H1 = H at hP hS ⊢
  have hP : va_P (dC, dI) vwCl [(tp, .inr (9, [.ref tb, .int 0, .int 0, .int 0]))] H := hP
  have hD : va_D A [(tp, .inr (9, [.ref tb, .int 0, .int 0, .int 0]))] := hD
  obtain rfl : r_5 = 99 := hw.trans (by decide)
  refine lv_bipush (v := 32) hx hb dX9_takeWord_71 (by decide) ?_
  refine lv_icmp_eq (tgt := 79) hx hb dX9_takeWord_73 (by decide) (fun c_6 => absurd c_6 (by decide)) (fun c_6 => ?_)
  refine lv_goto (tgt := 121) hx hb dX9_takeWord_76 (by decide) ?_
  refine lv_iinc (v := 1) (lv' := [(5, .int 1), (4, .int 0), (3, .int 0), (2, .int 0), (0, .ref tp), (1, .ref (aK 0))]) hx hb dX9_takeWord_121 hl (k := 0) rfl (by decide) (by decide) rfl (fun ls hl => ?_)
  refine lv_goto (tgt := 49) hx hb dX9_takeWord_124 (by decide) ?_
  refine lv_iload hx hb dX9_takeWord_49 (lv_at hl 0 rfl) ?_
  refine lv_aload_n hx hb dX9_takeWord_51 rfl (lv_at hl 5 rfl) ?_
  have hPc := hP.sub (ws' := []) [] rfl
  have hDc := hD.sub (ws' := []) [] (by decide) rfl
  have hKc := hK.sub (tys' := []) [] rfl
  have hFc := va_free (wc := []) hD hS hA [] rfl
  refine va_calli (va_runV (As := []) (rest := [.int 1]) ⟨hx, hb, hml, hown, hts⟩ (s_length l dC dI aK aV 0 (by decide) H.size) (cwV 0 hts (gUV tw_509 tw_510 tw_511 tw_15 tw_512) rfl rfl rfl (by decide +kernel) ⟨(Nat.le_of_ble_eq_true rfl), (Nat.le_of_ble_eq_true rfl)⟩) ⟨cPreS.blind, vk_recv hStr.1 (i := 0) (by decide) hS, cPreS.use hPc hKc hDc hE hStr hR hS hFc⟩ rfl rfl hl.1 rfl (lv_room (Nat.le_of_ble_eq_true rfl)) dX9_takeWord_52 ⟨(Nat.le_of_ble_eq_true rfl), (Nat.le_of_ble_eq_true rfl)⟩) hS (fun q _ h => hFc q h) hFc (fun r_7 u t H1 locs ht hvm hw hB hz1 hk1 hS => ?_)
  obtain ⟨hP, hD⟩ := va_join (wr := [(tp, .inr (9, [.ref tb, .int 0, .int 0, .int 0]))]) (w1 := []) hP hD [] [0] rfl rfl (by decide) (by decide) hk1 hFc (va_P_nil _ _ _) (va_D_nil _)
  generalize H1 = H at hP hS ⊢
  have hP : va_P (dC, dI) vwCl [(tp, .inr (9, [.ref tb, .int 0, .int 0, .int 0]))] H := hP
  have hD : va_D A [(tp, .inr (9, [.ref tb, .int 0, .int 0, .int 0]))] := hD
  obtain rfl : r_7 = 36 := hw.trans (by decide)
  refine lv_icmp_ge (tgt := 127) hx hb dX9_takeWord_55 (by decide) (fun c_8 => absurd c_8 (by decide)) (fun c_8 => ?_)
  refine lv_aload_n hx hb dX9_takeWord_58 rfl (lv_at hl 4 rfl) ?_
  refine va_get (D := (dC, dI)) (ci := 9) (v := .int 0) (C := RX9) (T := TX9) (N := 4) hx hb hts iX9 hown hK hP 0 rfl rfl 3 (by decide) (hts _ tw_44) (fun _ h9 => h9) rfl dX9_takeWord_59 ?_
  refine lv_if_ne (tgt := 127) hx hb dX9_takeWord_62 (by decide) (fun c_9 => absurd (by decide) c_9) (fun c_9 => ?_)
  refine lv_aload_n hx hb dX9_takeWord_65 rfl (lv_at hl 5 rfl) ?_
  refine lv_iload hx hb dX9_takeWord_66 (lv_at hl 0 rfl) ?_
  have hPc := hP.sub (ws' := []) [] rfl
  have hDc := hD.sub (ws' := []) [] (by decide) rfl
  have hKc := hK.sub (tys' := []) [] rfl
  have hFc := va_free (wc := []) hD hS hA [] rfl
  refine va_calli (va_runV (As := [.int 1]) (rest := []) ⟨hx, hb, hml, hown, hts⟩ (s_charAt l dC dI aK aV 0 1 (by decide) (by decide) H.size) (cwV 1 hts (gUV tw_519 tw_520 tw_521 tw_15 tw_522) rfl rfl rfl (by decide +kernel) ⟨(Nat.le_of_ble_eq_true rfl), (Nat.le_of_ble_eq_true rfl)⟩) ⟨cPreS.blind, vk_recv hStr.1 (i := 0) (by decide) hS, cPreS.use hPc hKc hDc hE hStr hR hS hFc⟩ rfl rfl hl.1 rfl (lv_room (Nat.le_of_ble_eq_true rfl)) dX9_takeWord_68 ⟨(Nat.le_of_ble_eq_true rfl), (Nat.le_of_ble_eq_true rfl)⟩) hS (fun q _ h => hFc q h) hFc (fun r_10 u t H1 locs ht hvm hw hB hz1 hk1 hS => ?_)
  obtain ⟨hP, hD⟩ := va_join (wr := [(tp, .inr (9, [.ref tb, .int 0, .int 0, .int 0]))]) (w1 := []) hP hD [] [0] rfl rfl (by decide) (by decide) hk1 hFc (va_P_nil _ _ _) (va_D_nil _)
  generalize H1 = H at hP hS ⊢
  have hP : va_P (dC, dI) vwCl [(tp, .inr (9, [.ref tb, .int 0, .int 0, .int 0]))] H := hP
  have hD : va_D A [(tp, .inr (9, [.ref tb, .int 0, .int 0, .int 0]))] := hD
  obtain rfl : r_10 = 104 := hw.trans (by decide)
  refine lv_bipush (v := 32) hx hb dX9_takeWord_71 (by decide) ?_
  refine lv_icmp_eq (tgt := 79) hx hb dX9_takeWord_73 (by decide) (fun c_11 => absurd c_11 (by decide)) (fun c_11 => ?_)
  refine lv_goto (tgt := 121) hx hb dX9_takeWord_76 (by decide) ?_
  refine lv_iinc (v := 2) (lv' := [(5, .int 2), (4, .int 0), (3, .int 0), (2, .int 0), (0, .ref tp), (1, .ref (aK 0))]) hx hb dX9_takeWord_121 hl (k := 0) rfl (by decide) (by decide) rfl (fun ls hl => ?_)
  refine lv_goto (tgt := 49) hx hb dX9_takeWord_124 (by decide) ?_
  refine lv_iload hx hb dX9_takeWord_49 (lv_at hl 0 rfl) ?_
  refine lv_aload_n hx hb dX9_takeWord_51 rfl (lv_at hl 5 rfl) ?_
  have hPc := hP.sub (ws' := []) [] rfl
  have hDc := hD.sub (ws' := []) [] (by decide) rfl
  have hKc := hK.sub (tys' := []) [] rfl
  have hFc := va_free (wc := []) hD hS hA [] rfl
  refine va_calli (va_runV (As := []) (rest := [.int 2]) ⟨hx, hb, hml, hown, hts⟩ (s_length l dC dI aK aV 0 (by decide) H.size) (cwV 0 hts (gUV tw_509 tw_510 tw_511 tw_15 tw_512) rfl rfl rfl (by decide +kernel) ⟨(Nat.le_of_ble_eq_true rfl), (Nat.le_of_ble_eq_true rfl)⟩) ⟨cPreS.blind, vk_recv hStr.1 (i := 0) (by decide) hS, cPreS.use hPc hKc hDc hE hStr hR hS hFc⟩ rfl rfl hl.1 rfl (lv_room (Nat.le_of_ble_eq_true rfl)) dX9_takeWord_52 ⟨(Nat.le_of_ble_eq_true rfl), (Nat.le_of_ble_eq_true rfl)⟩) hS (fun q _ h => hFc q h) hFc (fun r_12 u t H1 locs ht hvm hw hB hz1 hk1 hS => ?_)
  obtain ⟨hP, hD⟩ := va_join (wr := [(tp, .inr (9, [.ref tb, .int 0, .int 0, .int 0]))]) (w1 := []) hP hD [] [0] rfl rfl (by decide) (by decide) hk1 hFc (va_P_nil _ _ _) (va_D_nil _)
  generalize H1 = H at hP hS ⊢
  have hP : va_P (dC, dI) vwCl [(tp, .inr (9, [.ref tb, .int 0, .int 0, .int 0]))] H := hP
  have hD : va_D A [(tp, .inr (9, [.ref tb, .int 0, .int 0, .int 0]))] := hD
  obtain rfl : r_12 = 36 := hw.trans (by decide)
  refine lv_icmp_ge (tgt := 127) hx hb dX9_takeWord_55 (by decide) (fun c_13 => absurd c_13 (by decide)) (fun c_13 => ?_)
  refine lv_aload_n hx hb dX9_takeWord_58 rfl (lv_at hl 4 rfl) ?_
  refine va_get (D := (dC, dI)) (ci := 9) (v := .int 0) (C := RX9) (T := TX9) (N := 4) hx hb hts iX9 hown hK hP 0 rfl rfl 3 (by decide) (hts _ tw_44) (fun _ h9 => h9) rfl dX9_takeWord_59 ?_
  refine lv_if_ne (tgt := 127) hx hb dX9_takeWord_62 (by decide) (fun c_14 => absurd (by decide) c_14) (fun c_14 => ?_)
  refine lv_aload_n hx hb dX9_takeWord_65 rfl (lv_at hl 5 rfl) ?_
  refine lv_iload hx hb dX9_takeWord_66 (lv_at hl 0 rfl) ?_
  have hPc := hP.sub (ws' := []) [] rfl
  have hDc := hD.sub (ws' := []) [] (by decide) rfl
  have hKc := hK.sub (tys' := []) [] rfl
  have hFc := va_free (wc := []) hD hS hA [] rfl
  refine va_calli (va_runV (As := [.int 2]) (rest := []) ⟨hx, hb, hml, hown, hts⟩ (s_charAt l dC dI aK aV 0 2 (by decide) (by decide) H.size) (cwV 1 hts (gUV tw_519 tw_520 tw_521 tw_15 tw_522) rfl rfl rfl (by decide +kernel) ⟨(Nat.le_of_ble_eq_true rfl), (Nat.le_of_ble_eq_true rfl)⟩) ⟨cPreS.blind, vk_recv hStr.1 (i := 0) (by decide) hS, cPreS.use hPc hKc hDc hE hStr hR hS hFc⟩ rfl rfl hl.1 rfl (lv_room (Nat.le_of_ble_eq_true rfl)) dX9_takeWord_68 ⟨(Nat.le_of_ble_eq_true rfl), (Nat.le_of_ble_eq_true rfl)⟩) hS (fun q _ h => hFc q h) hFc (fun r_15 u t H1 locs ht hvm hw hB hz1 hk1 hS => ?_)
  obtain ⟨hP, hD⟩ := va_join (wr := [(tp, .inr (9, [.ref tb, .int 0, .int 0, .int 0]))]) (w1 := []) hP hD [] [0] rfl rfl (by decide) (by decide) hk1 hFc (va_P_nil _ _ _) (va_D_nil _)
  generalize H1 = H at hP hS ⊢
  have hP : va_P (dC, dI) vwCl [(tp, .inr (9, [.ref tb, .int 0, .int 0, .int 0]))] H := hP
  have hD : va_D A [(tp, .inr (9, [.ref tb, .int 0, .int 0, .int 0]))] := hD
  obtain rfl : r_15 = 111 := hw.trans (by decide)
  refine lv_bipush (v := 32) hx hb dX9_takeWord_71 (by decide) ?_
  refine lv_icmp_eq (tgt := 79) hx hb dX9_takeWord_73 (by decide) (fun c_16 => absurd c_16 (by decide)) (fun c_16 => ?_)
  refine lv_goto (tgt := 121) hx hb dX9_takeWord_76 (by decide) ?_
  refine lv_iinc (v := 3) (lv' := [(5, .int 3), (4, .int 0), (3, .int 0), (2, .int 0), (0, .ref tp), (1, .ref (aK 0))]) hx hb dX9_takeWord_121 hl (k := 0) rfl (by decide) (by decide) rfl (fun ls hl => ?_)
  refine lv_goto (tgt := 49) hx hb dX9_takeWord_124 (by decide) ?_
  refine lv_iload hx hb dX9_takeWord_49 (lv_at hl 0 rfl) ?_
  refine lv_aload_n hx hb dX9_takeWord_51 rfl (lv_at hl 5 rfl) ?_
  have hPc := hP.sub (ws' := []) [] rfl
  have hDc := hD.sub (ws' := []) [] (by decide) rfl
  have hKc := hK.sub (tys' := []) [] rfl
  have hFc := va_free (wc := []) hD hS hA [] rfl
  refine va_calli (va_runV (As := []) (rest := [.int 3]) ⟨hx, hb, hml, hown, hts⟩ (s_length l dC dI aK aV 0 (by decide) H.size) (cwV 0 hts (gUV tw_509 tw_510 tw_511 tw_15 tw_512) rfl rfl rfl (by decide +kernel) ⟨(Nat.le_of_ble_eq_true rfl), (Nat.le_of_ble_eq_true rfl)⟩) ⟨cPreS.blind, vk_recv hStr.1 (i := 0) (by decide) hS, cPreS.use hPc hKc hDc hE hStr hR hS hFc⟩ rfl rfl hl.1 rfl (lv_room (Nat.le_of_ble_eq_true rfl)) dX9_takeWord_52 ⟨(Nat.le_of_ble_eq_true rfl), (Nat.le_of_ble_eq_true rfl)⟩) hS (fun q _ h => hFc q h) hFc (fun r_17 u t H1 locs ht hvm hw hB hz1 hk1 hS => ?_)
  obtain ⟨hP, hD⟩ := va_join (wr := [(tp, .inr (9, [.ref tb, .int 0, .int 0, .int 0]))]) (w1 := []) hP hD [] [0] rfl rfl (by decide) (by decide) hk1 hFc (va_P_nil _ _ _) (va_D_nil _)
  generalize H1 = H at hP hS ⊢
  have hP : va_P (dC, dI) vwCl [(tp, .inr (9, [.ref tb, .int 0, .int 0, .int 0]))] H := hP
  have hD : va_D A [(tp, .inr (9, [.ref tb, .int 0, .int 0, .int 0]))] := hD
  obtain rfl : r_17 = 36 := hw.trans (by decide)
  refine lv_icmp_ge (tgt := 127) hx hb dX9_takeWord_55 (by decide) (fun c_18 => absurd c_18 (by decide)) (fun c_18 => ?_)
  refine lv_aload_n hx hb dX9_takeWord_58 rfl (lv_at hl 4 rfl) ?_
  refine va_get (D := (dC, dI)) (ci := 9) (v := .int 0) (C := RX9) (T := TX9) (N := 4) hx hb hts iX9 hown hK hP 0 rfl rfl 3 (by decide) (hts _ tw_44) (fun _ h9 => h9) rfl dX9_takeWord_59 ?_
  refine lv_if_ne (tgt := 127) hx hb dX9_takeWord_62 (by decide) (fun c_19 => absurd (by decide) c_19) (fun c_19 => ?_)
  refine lv_aload_n hx hb dX9_takeWord_65 rfl (lv_at hl 5 rfl) ?_
  refine lv_iload hx hb dX9_takeWord_66 (lv_at hl 0 rfl) ?_
  have hPc := hP.sub (ws' := []) [] rfl
  have hDc := hD.sub (ws' := []) [] (by decide) rfl
  have hKc := hK.sub (tys' := []) [] rfl
  have hFc := va_free (wc := []) hD hS hA [] rfl
  refine va_calli (va_runV (As := [.int 3]) (rest := []) ⟨hx, hb, hml, hown, hts⟩ (s_charAt l dC dI aK aV 0 3 (by decide) (by decide) H.size) (cwV 1 hts (gUV tw_519 tw_520 tw_521 tw_15 tw_522) rfl rfl rfl (by decide +kernel) ⟨(Nat.le_of_ble_eq_true rfl), (Nat.le_of_ble_eq_true rfl)⟩) ⟨cPreS.blind, vk_recv hStr.1 (i := 0) (by decide) hS, cPreS.use hPc hKc hDc hE hStr hR hS hFc⟩ rfl rfl hl.1 rfl (lv_room (Nat.le_of_ble_eq_true rfl)) dX9_takeWord_68 ⟨(Nat.le_of_ble_eq_true rfl), (Nat.le_of_ble_eq_true rfl)⟩) hS (fun q _ h => hFc q h) hFc (fun r_20 u t H1 locs ht hvm hw hB hz1 hk1 hS => ?_)
  obtain ⟨hP, hD⟩ := va_join (wr := [(tp, .inr (9, [.ref tb, .int 0, .int 0, .int 0]))]) (w1 := []) hP hD [] [0] rfl rfl (by decide) (by decide) hk1 hFc (va_P_nil _ _ _) (va_D_nil _)
  generalize H1 = H at hP hS ⊢
  have hP : va_P (dC, dI) vwCl [(tp, .inr (9, [.ref tb, .int 0, .int 0, .int 0]))] H := hP
  have hD : va_D A [(tp, .inr (9, [.ref tb, .int 0, .int 0, .int 0]))] := hD
  obtain rfl : r_20 = 105 := hw.trans (by decide)
  refine lv_bipush (v := 32) hx hb dX9_takeWord_71 (by decide) ?_
  refine lv_icmp_eq (tgt := 79) hx hb dX9_takeWord_73 (by decide) (fun c_21 => absurd c_21 (by decide)) (fun c_21 => ?_)
  refine lv_goto (tgt := 121) hx hb dX9_takeWord_76 (by decide) ?_
  refine lv_iinc (v := 4) (lv' := [(5, .int 4), (4, .int 0), (3, .int 0), (2, .int 0), (0, .ref tp), (1, .ref (aK 0))]) hx hb dX9_takeWord_121 hl (k := 0) rfl (by decide) (by decide) rfl (fun ls hl => ?_)
  refine lv_goto (tgt := 49) hx hb dX9_takeWord_124 (by decide) ?_
  refine lv_iload hx hb dX9_takeWord_49 (lv_at hl 0 rfl) ?_
  refine lv_aload_n hx hb dX9_takeWord_51 rfl (lv_at hl 5 rfl) ?_
  have hPc := hP.sub (ws' := []) [] rfl
  have hDc := hD.sub (ws' := []) [] (by decide) rfl
  have hKc := hK.sub (tys' := []) [] rfl
  have hFc := va_free (wc := []) hD hS hA [] rfl
  refine va_calli (va_runV (As := []) (rest := [.int 4]) ⟨hx, hb, hml, hown, hts⟩ (s_length l dC dI aK aV 0 (by decide) H.size) (cwV 0 hts (gUV tw_509 tw_510 tw_511 tw_15 tw_512) rfl rfl rfl (by decide +kernel) ⟨(Nat.le_of_ble_eq_true rfl), (Nat.le_of_ble_eq_true rfl)⟩) ⟨cPreS.blind, vk_recv hStr.1 (i := 0) (by decide) hS, cPreS.use hPc hKc hDc hE hStr hR hS hFc⟩ rfl rfl hl.1 rfl (lv_room (Nat.le_of_ble_eq_true rfl)) dX9_takeWord_52 ⟨(Nat.le_of_ble_eq_true rfl), (Nat.le_of_ble_eq_true rfl)⟩) hS (fun q _ h => hFc q h) hFc (fun r_22 u t H1 locs ht hvm hw hB hz1 hk1 hS => ?_)
  obtain ⟨hP, hD⟩ := va_join (wr := [(tp, .inr (9, [.ref tb, .int 0, .int 0, .int 0]))]) (w1 := []) hP hD [] [0] rfl rfl (by decide) (by decide) hk1 hFc (va_P_nil _ _ _) (va_D_nil _)
  generalize H1 = H at hP hS ⊢
  have hP : va_P (dC, dI) vwCl [(tp, .inr (9, [.ref tb, .int 0, .int 0, .int 0]))] H := hP
  have hD : va_D A [(tp, .inr (9, [.ref tb, .int 0, .int 0, .int 0]))] := hD
  obtain rfl : r_22 = 36 := hw.trans (by decide)
  refine lv_icmp_ge (tgt := 127) hx hb dX9_takeWord_55 (by decide) (fun c_23 => absurd c_23 (by decide)) (fun c_23 => ?_)
  refine lv_aload_n hx hb dX9_takeWord_58 rfl (lv_at hl 4 rfl) ?_
  refine va_get (D := (dC, dI)) (ci := 9) (v := .int 0) (C := RX9) (T := TX9) (N := 4) hx hb hts iX9 hown hK hP 0 rfl rfl 3 (by decide) (hts _ tw_44) (fun _ h9 => h9) rfl dX9_takeWord_59 ?_
  refine lv_if_ne (tgt := 127) hx hb dX9_takeWord_62 (by decide) (fun c_24 => absurd (by decide) c_24) (fun c_24 => ?_)
  refine lv_aload_n hx hb dX9_takeWord_65 rfl (lv_at hl 5 rfl) ?_
  refine lv_iload hx hb dX9_takeWord_66 (lv_at hl 0 rfl) ?_
  have hPc := hP.sub (ws' := []) [] rfl
  have hDc := hD.sub (ws' := []) [] (by decide) rfl
  have hKc := hK.sub (tys' := []) [] rfl
  have hFc := va_free (wc := []) hD hS hA [] rfl
  refine va_calli (va_runV (As := [.int 4]) (rest := []) ⟨hx, hb, hml, hown, hts⟩ (s_charAt l dC dI aK aV 0 4 (by decide) (by decide) H.size) (cwV 1 hts (gUV tw_519 tw_520 tw_521 tw_15 tw_522) rfl rfl rfl (by decide +kernel) ⟨(Nat.le_of_ble_eq_true rfl), (Nat.le_of_ble_eq_true rfl)⟩) ⟨cPreS.blind, vk_recv hStr.1 (i := 0) (by decide) hS, cPreS.use hPc hKc hDc hE hStr hR hS hFc⟩ rfl rfl hl.1 rfl (lv_room (Nat.le_of_ble_eq_true rfl)) dX9_takeWord_68 ⟨(Nat.le_of_ble_eq_true rfl), (Nat.le_of_ble_eq_true rfl)⟩) hS (fun q _ h => hFc q h) hFc (fun r_25 u t H1 locs ht hvm hw hB hz1 hk1 hS => ?_)
  obtain ⟨hP, hD⟩ := va_join (wr := [(tp, .inr (9, [.ref tb, .int 0, .int 0, .int 0]))]) (w1 := []) hP hD [] [0] rfl rfl (by decide) (by decide) hk1 hFc (va_P_nil _ _ _) (va_D_nil _)
  generalize H1 = H at hP hS ⊢
  have hP : va_P (dC, dI) vwCl [(tp, .inr (9, [.ref tb, .int 0, .int 0, .int 0]))] H := hP
  have hD : va_D A [(tp, .inr (9, [.ref tb, .int 0, .int 0, .int 0]))] := hD
  obtain rfl : r_25 = 114 := hw.trans (by decide)
  refine lv_bipush (v := 32) hx hb dX9_takeWord_71 (by decide) ?_
  refine lv_icmp_eq (tgt := 79) hx hb dX9_takeWord_73 (by decide) (fun c_26 => absurd c_26 (by decide)) (fun c_26 => ?_)
  refine lv_goto (tgt := 121) hx hb dX9_takeWord_76 (by decide) ?_
  refine lv_iinc (v := 5) (lv' := [(5, .int 5), (4, .int 0), (3, .int 0), (2, .int 0), (0, .ref tp), (1, .ref (aK 0))]) hx hb dX9_takeWord_121 hl (k := 0) rfl (by decide) (by decide) rfl (fun ls hl => ?_)
  refine lv_goto (tgt := 49) hx hb dX9_takeWord_124 (by decide) ?_
  refine lv_iload hx hb dX9_takeWord_49 (lv_at hl 0 rfl) ?_
  refine lv_aload_n hx hb dX9_takeWord_51 rfl (lv_at hl 5 rfl) ?_
  have hPc := hP.sub (ws' := []) [] rfl
  have hDc := hD.sub (ws' := []) [] (by decide) rfl
  have hKc := hK.sub (tys' := []) [] rfl
  have hFc := va_free (wc := []) hD hS hA [] rfl
  refine va_calli (va_runV (As := []) (rest := [.int 5]) ⟨hx, hb, hml, hown, hts⟩ (s_length l dC dI aK aV 0 (by decide) H.size) (cwV 0 hts (gUV tw_509 tw_510 tw_511 tw_15 tw_512) rfl rfl rfl (by decide +kernel) ⟨(Nat.le_of_ble_eq_true rfl), (Nat.le_of_ble_eq_true rfl)⟩) ⟨cPreS.blind, vk_recv hStr.1 (i := 0) (by decide) hS, cPreS.use hPc hKc hDc hE hStr hR hS hFc⟩ rfl rfl hl.1 rfl (lv_room (Nat.le_of_ble_eq_true rfl)) dX9_takeWord_52 ⟨(Nat.le_of_ble_eq_true rfl), (Nat.le_of_ble_eq_true rfl)⟩) hS (fun q _ h => hFc q h) hFc (fun r_27 u t H1 locs ht hvm hw hB hz1 hk1 hS => ?_)
  obtain ⟨hP, hD⟩ := va_join (wr := [(tp, .inr (9, [.ref tb, .int 0, .int 0, .int 0]))]) (w1 := []) hP hD [] [0] rfl rfl (by decide) (by decide) hk1 hFc (va_P_nil _ _ _) (va_D_nil _)
  generalize H1 = H at hP hS ⊢
  have hP : va_P (dC, dI) vwCl [(tp, .inr (9, [.ref tb, .int 0, .int 0, .int 0]))] H := hP
  have hD : va_D A [(tp, .inr (9, [.ref tb, .int 0, .int 0, .int 0]))] := hD
  obtain rfl : r_27 = 36 := hw.trans (by decide)
  refine lv_icmp_ge (tgt := 127) hx hb dX9_takeWord_55 (by decide) (fun c_28 => absurd c_28 (by decide)) (fun c_28 => ?_)
  refine lv_aload_n hx hb dX9_takeWord_58 rfl (lv_at hl 4 rfl) ?_
  refine va_get (D := (dC, dI)) (ci := 9) (v := .int 0) (C := RX9) (T := TX9) (N := 4) hx hb hts iX9 hown hK hP 0 rfl rfl 3 (by decide) (hts _ tw_44) (fun _ h9 => h9) rfl dX9_takeWord_59 ?_
  refine lv_if_ne (tgt := 127) hx hb dX9_takeWord_62 (by decide) (fun c_29 => absurd (by decide) c_29) (fun c_29 => ?_)
  refine lv_aload_n hx hb dX9_takeWord_65 rfl (lv_at hl 5 rfl) ?_
  refine lv_iload hx hb dX9_takeWord_66 (lv_at hl 0 rfl) ?_
  have hPc := hP.sub (ws' := []) [] rfl
  have hDc := hD.sub (ws' := []) [] (by decide) rfl
  have hKc := hK.sub (tys' := []) [] rfl
  have hFc := va_free (wc := []) hD hS hA [] rfl
  refine va_calli (va_runV (As := [.int 5]) (rest := []) ⟨hx, hb, hml, hown, hts⟩ (s_charAt l dC dI aK aV 0 5 (by decide) (by decide) H.size) (cwV 1 hts (gUV tw_519 tw_520 tw_521 tw_15 tw_522) rfl rfl rfl (by decide +kernel) ⟨(Nat.le_of_ble_eq_true rfl), (Nat.le_of_ble_eq_true rfl)⟩) ⟨cPreS.blind, vk_recv hStr.1 (i := 0) (by decide) hS, cPreS.use hPc hKc hDc hE hStr hR hS hFc⟩ rfl rfl hl.1 rfl (lv_room (Nat.le_of_ble_eq_true rfl)) dX9_takeWord_68 ⟨(Nat.le_of_ble_eq_true rfl), (Nat.le_of_ble_eq_true rfl)⟩) hS (fun q _ h => hFc q h) hFc (fun r_30 u t H1 locs ht hvm hw hB hz1 hk1 hS => ?_)
  obtain ⟨hP, hD⟩ := va_join (wr := [(tp, .inr (9, [.ref tb, .int 0, .int 0, .int 0]))]) (w1 := []) hP hD [] [0] rfl rfl (by decide) (by decide) hk1 hFc (va_P_nil _ _ _) (va_D_nil _)
  generalize H1 = H at hP hS ⊢
  have hP : va_P (dC, dI) vwCl [(tp, .inr (9, [.ref tb, .int 0, .int 0, .int 0]))] H := hP
  have hD : va_D A [(tp, .inr (9, [.ref tb, .int 0, .int 0, .int 0]))] := hD
  obtain rfl : r_30 = 32 := hw.trans (by decide)
  refine lv_bipush (v := 32) hx hb dX9_takeWord_71 (by decide) ?_
  refine lv_icmp_eq (tgt := 79) hx hb dX9_takeWord_73 (by decide) (fun c_31 => ?_) (fun c_31 => absurd (by decide) c_31)
  refine lv_iload hx hb dX9_takeWord_79 (lv_at hl 0 rfl) ?_
  refine lv_iload hx hb dX9_takeWord_81 (lv_at hl 1 rfl) ?_
  refine lv_isub hx hb dX9_takeWord_83 ?_
  refine lv_topi (fun x_32 ex_32 => ?_)
  obtain rfl : x_32 = 5 := ex_32.trans (by decide)
  refine lv_iload_n hx hb dX9_takeWord_84 rfl (lv_at hl 3 rfl) ?_
  refine lv_aload_n hx hb dX9_takeWord_85 rfl (lv_at hl 4 rfl) ?_
  refine va_get (D := (dC, dI)) (ci := 9) (v := .int 0) (C := RX9) (T := TX9) (N := 4) hx hb hts iX9 hown hK hP 0 rfl rfl 2 (by decide) (hts _ tw_41) (fun _ h9 => h9) rfl dX9_takeWord_86 ?_
  refine lv_isub hx hb dX9_takeWord_89 ?_
  refine lv_topi (fun x_33 ex_33 => ?_)
  obtain rfl : x_33 = 0 := ex_33.trans (by decide)
  refine lv_icmp_ne (tgt := 112) hx hb dX9_takeWord_90 (by decide) (fun c_34 => ?_) (fun c_34 => absurd c_34 (by decide))
  refine lv_iinc (v := 1) (lv' := [(3, .int 1), (5, .int 5), (4, .int 0), (2, .int 0), (0, .ref tp), (1, .ref (aK 0))]) hx hb dX9_takeWord_112 hl (k := 2) rfl (by decide) (by decide) rfl (fun ls hl => ?_)
  refine lv_iload hx hb dX9_takeWord_115 (lv_at hl 1 rfl) ?_
  refine lv_iconst (v := 1) hx hb dX9_takeWord_117 (by decide) ?_
  refine lv_iadd hx hb dX9_takeWord_118 ?_
  refine lv_topi (fun x_35 ex_35 => ?_)
  obtain rfl : x_35 = 6 := ex_35.trans (by decide)
  refine lv_istore (lv' := [(4, .int 6), (3, .int 1), (5, .int 5), (2, .int 0), (0, .ref tp), (1, .ref (aK 0))]) hx hb dX9_takeWord_119 hl (by decide) rfl (fun ls hl => ?_)
  refine lv_iinc (v := 6) (lv' := [(5, .int 6), (4, .int 6), (3, .int 1), (2, .int 0), (0, .ref tp), (1, .ref (aK 0))]) hx hb dX9_takeWord_121 hl (k := 2) rfl (by decide) (by decide) rfl (fun ls hl => ?_)
  refine lv_goto (tgt := 49) hx hb dX9_takeWord_124 (by decide) ?_
  refine lv_iload hx hb dX9_takeWord_49 (lv_at hl 0 rfl) ?_
  refine lv_aload_n hx hb dX9_takeWord_51 rfl (lv_at hl 5 rfl) ?_
  have hPc := hP.sub (ws' := []) [] rfl
  have hDc := hD.sub (ws' := []) [] (by decide) rfl
  have hKc := hK.sub (tys' := []) [] rfl
  have hFc := va_free (wc := []) hD hS hA [] rfl
  refine va_calli (va_runV (As := []) (rest := [.int 6]) ⟨hx, hb, hml, hown, hts⟩ (s_length l dC dI aK aV 0 (by decide) H.size) (cwV 0 hts (gUV tw_509 tw_510 tw_511 tw_15 tw_512) rfl rfl rfl (by decide +kernel) ⟨(Nat.le_of_ble_eq_true rfl), (Nat.le_of_ble_eq_true rfl)⟩) ⟨cPreS.blind, vk_recv hStr.1 (i := 0) (by decide) hS, cPreS.use hPc hKc hDc hE hStr hR hS hFc⟩ rfl rfl hl.1 rfl (lv_room (Nat.le_of_ble_eq_true rfl)) dX9_takeWord_52 ⟨(Nat.le_of_ble_eq_true rfl), (Nat.le_of_ble_eq_true rfl)⟩) hS (fun q _ h => hFc q h) hFc (fun r_36 u t H1 locs ht hvm hw hB hz1 hk1 hS => ?_)
  obtain ⟨hP, hD⟩ := va_join (wr := [(tp, .inr (9, [.ref tb, .int 0, .int 0, .int 0]))]) (w1 := []) hP hD [] [0] rfl rfl (by decide) (by decide) hk1 hFc (va_P_nil _ _ _) (va_D_nil _)
  generalize H1 = H at hP hS ⊢
  have hP : va_P (dC, dI) vwCl [(tp, .inr (9, [.ref tb, .int 0, .int 0, .int 0]))] H := hP
  have hD : va_D A [(tp, .inr (9, [.ref tb, .int 0, .int 0, .int 0]))] := hD
  obtain rfl : r_36 = 36 := hw.trans (by decide)
  refine lv_icmp_ge (tgt := 127) hx hb dX9_takeWord_55 (by decide) (fun c_37 => absurd c_37 (by decide)) (fun c_37 => ?_)
  refine lv_aload_n hx hb dX9_takeWord_58 rfl (lv_at hl 4 rfl) ?_
  refine va_get (D := (dC, dI)) (ci := 9) (v := .int 0) (C := RX9) (T := TX9) (N := 4) hx hb hts iX9 hown hK hP 0 rfl rfl 3 (by decide) (hts _ tw_44) (fun _ h9 => h9) rfl dX9_takeWord_59 ?_
  refine lv_if_ne (tgt := 127) hx hb dX9_takeWord_62 (by decide) (fun c_38 => absurd (by decide) c_38) (fun c_38 => ?_)
  refine lv_aload_n hx hb dX9_takeWord_65 rfl (lv_at hl 5 rfl) ?_
  refine lv_iload hx hb dX9_takeWord_66 (lv_at hl 0 rfl) ?_
  have hPc := hP.sub (ws' := []) [] rfl
  have hDc := hD.sub (ws' := []) [] (by decide) rfl
  have hKc := hK.sub (tys' := []) [] rfl
  have hFc := va_free (wc := []) hD hS hA [] rfl
  refine va_calli (va_runV (As := [.int 6]) (rest := []) ⟨hx, hb, hml, hown, hts⟩ (s_charAt l dC dI aK aV 0 6 (by decide) (by decide) H.size) (cwV 1 hts (gUV tw_519 tw_520 tw_521 tw_15 tw_522) rfl rfl rfl (by decide +kernel) ⟨(Nat.le_of_ble_eq_true rfl), (Nat.le_of_ble_eq_true rfl)⟩) ⟨cPreS.blind, vk_recv hStr.1 (i := 0) (by decide) hS, cPreS.use hPc hKc hDc hE hStr hR hS hFc⟩ rfl rfl hl.1 rfl (lv_room (Nat.le_of_ble_eq_true rfl)) dX9_takeWord_68 ⟨(Nat.le_of_ble_eq_true rfl), (Nat.le_of_ble_eq_true rfl)⟩) hS (fun q _ h => hFc q h) hFc (fun r_39 u t H1 locs ht hvm hw hB hz1 hk1 hS => ?_)
  obtain ⟨hP, hD⟩ := va_join (wr := [(tp, .inr (9, [.ref tb, .int 0, .int 0, .int 0]))]) (w1 := []) hP hD [] [0] rfl rfl (by decide) (by decide) hk1 hFc (va_P_nil _ _ _) (va_D_nil _)
  generalize H1 = H at hP hS ⊢
  have hP : va_P (dC, dI) vwCl [(tp, .inr (9, [.ref tb, .int 0, .int 0, .int 0]))] H := hP
  have hD : va_D A [(tp, .inr (9, [.ref tb, .int 0, .int 0, .int 0]))] := hD
  obtain rfl : r_39 = 98 := hw.trans (by decide)
  refine lv_bipush (v := 32) hx hb dX9_takeWord_71 (by decide) ?_
  refine lv_icmp_eq (tgt := 79) hx hb dX9_takeWord_73 (by decide) (fun c_40 => absurd c_40 (by decide)) (fun c_40 => ?_)
  refine lv_goto (tgt := 121) hx hb dX9_takeWord_76 (by decide) ?_
  refine lv_iinc (v := 7) (lv' := [(5, .int 7), (4, .int 6), (3, .int 1), (2, .int 0), (0, .ref tp), (1, .ref (aK 0))]) hx hb dX9_takeWord_121 hl (k := 0) rfl (by decide) (by decide) rfl (fun ls hl => ?_)
  refine lv_goto (tgt := 49) hx hb dX9_takeWord_124 (by decide) ?_
  refine lv_iload hx hb dX9_takeWord_49 (lv_at hl 0 rfl) ?_
  refine lv_aload_n hx hb dX9_takeWord_51 rfl (lv_at hl 5 rfl) ?_
  have hPc := hP.sub (ws' := []) [] rfl
  have hDc := hD.sub (ws' := []) [] (by decide) rfl
  have hKc := hK.sub (tys' := []) [] rfl
  have hFc := va_free (wc := []) hD hS hA [] rfl
  refine va_calli (va_runV (As := []) (rest := [.int 7]) ⟨hx, hb, hml, hown, hts⟩ (s_length l dC dI aK aV 0 (by decide) H.size) (cwV 0 hts (gUV tw_509 tw_510 tw_511 tw_15 tw_512) rfl rfl rfl (by decide +kernel) ⟨(Nat.le_of_ble_eq_true rfl), (Nat.le_of_ble_eq_true rfl)⟩) ⟨cPreS.blind, vk_recv hStr.1 (i := 0) (by decide) hS, cPreS.use hPc hKc hDc hE hStr hR hS hFc⟩ rfl rfl hl.1 rfl (lv_room (Nat.le_of_ble_eq_true rfl)) dX9_takeWord_52 ⟨(Nat.le_of_ble_eq_true rfl), (Nat.le_of_ble_eq_true rfl)⟩) hS (fun q _ h => hFc q h) hFc (fun r_41 u t H1 locs ht hvm hw hB hz1 hk1 hS => ?_)
  obtain ⟨hP, hD⟩ := va_join (wr := [(tp, .inr (9, [.ref tb, .int 0, .int 0, .int 0]))]) (w1 := []) hP hD [] [0] rfl rfl (by decide) (by decide) hk1 hFc (va_P_nil _ _ _) (va_D_nil _)
  generalize H1 = H at hP hS ⊢
  have hP : va_P (dC, dI) vwCl [(tp, .inr (9, [.ref tb, .int 0, .int 0, .int 0]))] H := hP
  have hD : va_D A [(tp, .inr (9, [.ref tb, .int 0, .int 0, .int 0]))] := hD
  obtain rfl : r_41 = 36 := hw.trans (by decide)
  refine lv_icmp_ge (tgt := 127) hx hb dX9_takeWord_55 (by decide) (fun c_42 => absurd c_42 (by decide)) (fun c_42 => ?_)
  refine lv_aload_n hx hb dX9_takeWord_58 rfl (lv_at hl 4 rfl) ?_
  refine va_get (D := (dC, dI)) (ci := 9) (v := .int 0) (C := RX9) (T := TX9) (N := 4) hx hb hts iX9 hown hK hP 0 rfl rfl 3 (by decide) (hts _ tw_44) (fun _ h9 => h9) rfl dX9_takeWord_59 ?_
  refine lv_if_ne (tgt := 127) hx hb dX9_takeWord_62 (by decide) (fun c_43 => absurd (by decide) c_43) (fun c_43 => ?_)
  refine lv_aload_n hx hb dX9_takeWord_65 rfl (lv_at hl 5 rfl) ?_
  refine lv_iload hx hb dX9_takeWord_66 (lv_at hl 0 rfl) ?_
  have hPc := hP.sub (ws' := []) [] rfl
  have hDc := hD.sub (ws' := []) [] (by decide) rfl
  have hKc := hK.sub (tys' := []) [] rfl
  have hFc := va_free (wc := []) hD hS hA [] rfl
  refine va_calli (va_runV (As := [.int 7]) (rest := []) ⟨hx, hb, hml, hown, hts⟩ (s_charAt l dC dI aK aV 0 7 (by decide) (by decide) H.size) (cwV 1 hts (gUV tw_519 tw_520 tw_521 tw_15 tw_522) rfl rfl rfl (by decide +kernel) ⟨(Nat.le_of_ble_eq_true rfl), (Nat.le_of_ble_eq_true rfl)⟩) ⟨cPreS.blind, vk_recv hStr.1 (i := 0) (by decide) hS, cPreS.use hPc hKc hDc hE hStr hR hS hFc⟩ rfl rfl hl.1 rfl (lv_room (Nat.le_of_ble_eq_true rfl)) dX9_takeWord_68 ⟨(Nat.le_of_ble_eq_true rfl), (Nat.le_of_ble_eq_true rfl)⟩) hS (fun q _ h => hFc q h) hFc (fun r_44 u t H1 locs ht hvm hw hB hz1 hk1 hS => ?_)
  obtain ⟨hP, hD⟩ := va_join (wr := [(tp, .inr (9, [.ref tb, .int 0, .int 0, .int 0]))]) (w1 := []) hP hD [] [0] rfl rfl (by decide) (by decide) hk1 hFc (va_P_nil _ _ _) (va_D_nil _)
  generalize H1 = H at hP hS ⊢
  have hP : va_P (dC, dI) vwCl [(tp, .inr (9, [.ref tb, .int 0, .int 0, .int 0]))] H := hP
  have hD : va_D A [(tp, .inr (9, [.ref tb, .int 0, .int 0, .int 0]))] := hD
  obtain rfl : r_44 = 111 := hw.trans (by decide)
  refine lv_bipush (v := 32) hx hb dX9_takeWord_71 (by decide) ?_
  refine lv_icmp_eq (tgt := 79) hx hb dX9_takeWord_73 (by decide) (fun c_45 => absurd c_45 (by decide)) (fun c_45 => ?_)
  refine lv_goto (tgt := 121) hx hb dX9_takeWord_76 (by decide) ?_
  refine lv_iinc (v := 8) (lv' := [(5, .int 8), (4, .int 6), (3, .int 1), (2, .int 0), (0, .ref tp), (1, .ref (aK 0))]) hx hb dX9_takeWord_121 hl (k := 0) rfl (by decide) (by decide) rfl (fun ls hl => ?_)
  refine lv_goto (tgt := 49) hx hb dX9_takeWord_124 (by decide) ?_
  refine lv_iload hx hb dX9_takeWord_49 (lv_at hl 0 rfl) ?_
  refine lv_aload_n hx hb dX9_takeWord_51 rfl (lv_at hl 5 rfl) ?_
  have hPc := hP.sub (ws' := []) [] rfl
  have hDc := hD.sub (ws' := []) [] (by decide) rfl
  have hKc := hK.sub (tys' := []) [] rfl
  have hFc := va_free (wc := []) hD hS hA [] rfl
  refine va_calli (va_runV (As := []) (rest := [.int 8]) ⟨hx, hb, hml, hown, hts⟩ (s_length l dC dI aK aV 0 (by decide) H.size) (cwV 0 hts (gUV tw_509 tw_510 tw_511 tw_15 tw_512) rfl rfl rfl (by decide +kernel) ⟨(Nat.le_of_ble_eq_true rfl), (Nat.le_of_ble_eq_true rfl)⟩) ⟨cPreS.blind, vk_recv hStr.1 (i := 0) (by decide) hS, cPreS.use hPc hKc hDc hE hStr hR hS hFc⟩ rfl rfl hl.1 rfl (lv_room (Nat.le_of_ble_eq_true rfl)) dX9_takeWord_52 ⟨(Nat.le_of_ble_eq_true rfl), (Nat.le_of_ble_eq_true rfl)⟩) hS (fun q _ h => hFc q h) hFc (fun r_46 u t H1 locs ht hvm hw hB hz1 hk1 hS => ?_)
  obtain ⟨hP, hD⟩ := va_join (wr := [(tp, .inr (9, [.ref tb, .int 0, .int 0, .int 0]))]) (w1 := []) hP hD [] [0] rfl rfl (by decide) (by decide) hk1 hFc (va_P_nil _ _ _) (va_D_nil _)
  generalize H1 = H at hP hS ⊢
  have hP : va_P (dC, dI) vwCl [(tp, .inr (9, [.ref tb, .int 0, .int 0, .int 0]))] H := hP
  have hD : va_D A [(tp, .inr (9, [.ref tb, .int 0, .int 0, .int 0]))] := hD
  obtain rfl : r_46 = 36 := hw.trans (by decide)
  refine lv_icmp_ge (tgt := 127) hx hb dX9_takeWord_55 (by decide) (fun c_47 => absurd c_47 (by decide)) (fun c_47 => ?_)
  refine lv_aload_n hx hb dX9_takeWord_58 rfl (lv_at hl 4 rfl) ?_
  refine va_get (D := (dC, dI)) (ci := 9) (v := .int 0) (C := RX9) (T := TX9) (N := 4) hx hb hts iX9 hown hK hP 0 rfl rfl 3 (by decide) (hts _ tw_44) (fun _ h9 => h9) rfl dX9_takeWord_59 ?_
  refine lv_if_ne (tgt := 127) hx hb dX9_takeWord_62 (by decide) (fun c_48 => absurd (by decide) c_48) (fun c_48 => ?_)
  refine lv_aload_n hx hb dX9_takeWord_65 rfl (lv_at hl 5 rfl) ?_
  refine lv_iload hx hb dX9_takeWord_66 (lv_at hl 0 rfl) ?_
  have hPc := hP.sub (ws' := []) [] rfl
  have hDc := hD.sub (ws' := []) [] (by decide) rfl
  have hKc := hK.sub (tys' := []) [] rfl
  have hFc := va_free (wc := []) hD hS hA [] rfl
  refine va_calli (va_runV (As := [.int 8]) (rest := []) ⟨hx, hb, hml, hown, hts⟩ (s_charAt l dC dI aK aV 0 8 (by decide) (by decide) H.size) (cwV 1 hts (gUV tw_519 tw_520 tw_521 tw_15 tw_522) rfl rfl rfl (by decide +kernel) ⟨(Nat.le_of_ble_eq_true rfl), (Nat.le_of_ble_eq_true rfl)⟩) ⟨cPreS.blind, vk_recv hStr.1 (i := 0) (by decide) hS, cPreS.use hPc hKc hDc hE hStr hR hS hFc⟩ rfl rfl hl.1 rfl (lv_room (Nat.le_of_ble_eq_true rfl)) dX9_takeWord_68 ⟨(Nat.le_of_ble_eq_true rfl), (Nat.le_of_ble_eq_true rfl)⟩) hS (fun q _ h => hFc q h) hFc (fun r_49 u t H1 locs ht hvm hw hB hz1 hk1 hS => ?_)
  obtain ⟨hP, hD⟩ := va_join (wr := [(tp, .inr (9, [.ref tb, .int 0, .int 0, .int 0]))]) (w1 := []) hP hD [] [0] rfl rfl (by decide) (by decide) hk1 hFc (va_P_nil _ _ _) (va_D_nil _)
  generalize H1 = H at hP hS ⊢
  have hP : va_P (dC, dI) vwCl [(tp, .inr (9, [.ref tb, .int 0, .int 0, .int 0]))] H := hP
  have hD : va_D A [(tp, .inr (9, [.ref tb, .int 0, .int 0, .int 0]))] := hD
  obtain rfl : r_49 = 121 := hw.trans (by decide)
  refine lv_bipush (v := 32) hx hb dX9_takeWord_71 (by decide) ?_
  refine lv_icmp_eq (tgt := 79) hx hb dX9_takeWord_73 (by decide) (fun c_50 => absurd c_50 (by decide)) (fun c_50 => ?_)
  refine lv_goto (tgt := 121) hx hb dX9_takeWord_76 (by decide) ?_
  refine lv_iinc (v := 9) (lv' := [(5, .int 9), (4, .int 6), (3, .int 1), (2, .int 0), (0, .ref tp), (1, .ref (aK 0))]) hx hb dX9_takeWord_121 hl (k := 0) rfl (by decide) (by decide) rfl (fun ls hl => ?_)
  refine lv_goto (tgt := 49) hx hb dX9_takeWord_124 (by decide) ?_
  refine lv_iload hx hb dX9_takeWord_49 (lv_at hl 0 rfl) ?_
  refine lv_aload_n hx hb dX9_takeWord_51 rfl (lv_at hl 5 rfl) ?_
  have hPc := hP.sub (ws' := []) [] rfl
  have hDc := hD.sub (ws' := []) [] (by decide) rfl
  have hKc := hK.sub (tys' := []) [] rfl
  have hFc := va_free (wc := []) hD hS hA [] rfl
  refine va_calli (va_runV (As := []) (rest := [.int 9]) ⟨hx, hb, hml, hown, hts⟩ (s_length l dC dI aK aV 0 (by decide) H.size) (cwV 0 hts (gUV tw_509 tw_510 tw_511 tw_15 tw_512) rfl rfl rfl (by decide +kernel) ⟨(Nat.le_of_ble_eq_true rfl), (Nat.le_of_ble_eq_true rfl)⟩) ⟨cPreS.blind, vk_recv hStr.1 (i := 0) (by decide) hS, cPreS.use hPc hKc hDc hE hStr hR hS hFc⟩ rfl rfl hl.1 rfl (lv_room (Nat.le_of_ble_eq_true rfl)) dX9_takeWord_52 ⟨(Nat.le_of_ble_eq_true rfl), (Nat.le_of_ble_eq_true rfl)⟩) hS (fun q _ h => hFc q h) hFc (fun r_51 u t H1 locs ht hvm hw hB hz1 hk1 hS => ?_)
  obtain ⟨hP, hD⟩ := va_join (wr := [(tp, .inr (9, [.ref tb, .int 0, .int 0, .int 0]))]) (w1 := []) hP hD [] [0] rfl rfl (by decide) (by decide) hk1 hFc (va_P_nil _ _ _) (va_D_nil _)
  generalize H1 = H at hP hS ⊢
  have hP : va_P (dC, dI) vwCl [(tp, .inr (9, [.ref tb, .int 0, .int 0, .int 0]))] H := hP
  have hD : va_D A [(tp, .inr (9, [.ref tb, .int 0, .int 0, .int 0]))] := hD
  obtain rfl : r_51 = 36 := hw.trans (by decide)
  refine lv_icmp_ge (tgt := 127) hx hb dX9_takeWord_55 (by decide) (fun c_52 => absurd c_52 (by decide)) (fun c_52 => ?_)
  refine lv_aload_n hx hb dX9_takeWord_58 rfl (lv_at hl 4 rfl) ?_
  refine va_get (D := (dC, dI)) (ci := 9) (v := .int 0) (C := RX9) (T := TX9) (N := 4) hx hb hts iX9 hown hK hP 0 rfl rfl 3 (by decide) (hts _ tw_44) (fun _ h9 => h9) rfl dX9_takeWord_59 ?_
  refine lv_if_ne (tgt := 127) hx hb dX9_takeWord_62 (by decide) (fun c_53 => absurd (by decide) c_53) (fun c_53 => ?_)
  refine lv_aload_n hx hb dX9_takeWord_65 rfl (lv_at hl 5 rfl) ?_
  refine lv_iload hx hb dX9_takeWord_66 (lv_at hl 0 rfl) ?_
  have hPc := hP.sub (ws' := []) [] rfl
  have hDc := hD.sub (ws' := []) [] (by decide) rfl
  have hKc := hK.sub (tys' := []) [] rfl
  have hFc := va_free (wc := []) hD hS hA [] rfl
  refine va_calli (va_runV (As := [.int 9]) (rest := []) ⟨hx, hb, hml, hown, hts⟩ (s_charAt l dC dI aK aV 0 9 (by decide) (by decide) H.size) (cwV 1 hts (gUV tw_519 tw_520 tw_521 tw_15 tw_522) rfl rfl rfl (by decide +kernel) ⟨(Nat.le_of_ble_eq_true rfl), (Nat.le_of_ble_eq_true rfl)⟩) ⟨cPreS.blind, vk_recv hStr.1 (i := 0) (by decide) hS, cPreS.use hPc hKc hDc hE hStr hR hS hFc⟩ rfl rfl hl.1 rfl (lv_room (Nat.le_of_ble_eq_true rfl)) dX9_takeWord_68 ⟨(Nat.le_of_ble_eq_true rfl), (Nat.le_of_ble_eq_true rfl)⟩) hS (fun q _ h => hFc q h) hFc (fun r_54 u t H1 locs ht hvm hw hB hz1 hk1 hS => ?_)
  obtain ⟨hP, hD⟩ := va_join (wr := [(tp, .inr (9, [.ref tb, .int 0, .int 0, .int 0]))]) (w1 := []) hP hD [] [0] rfl rfl (by decide) (by decide) hk1 hFc (va_P_nil _ _ _) (va_D_nil _)
  generalize H1 = H at hP hS ⊢
  have hP : va_P (dC, dI) vwCl [(tp, .inr (9, [.ref tb, .int 0, .int 0, .int 0]))] H := hP
  have hD : va_D A [(tp, .inr (9, [.ref tb, .int 0, .int 0, .int 0]))] := hD
  obtain rfl : r_54 = 32 := hw.trans (by decide)
  refine lv_bipush (v := 32) hx hb dX9_takeWord_71 (by decide) ?_
  refine lv_icmp_eq (tgt := 79) hx hb dX9_takeWord_73 (by decide) (fun c_55 => ?_) (fun c_55 => absurd (by decide) c_55)
  refine lv_iload hx hb dX9_takeWord_79 (lv_at hl 0 rfl) ?_
  refine lv_iload hx hb dX9_takeWord_81 (lv_at hl 1 rfl) ?_
  refine lv_isub hx hb dX9_takeWord_83 ?_
  refine lv_topi (fun x_56 ex_56 => ?_)
  obtain rfl : x_56 = 3 := ex_56.trans (by decide)
  refine lv_iload_n hx hb dX9_takeWord_84 rfl (lv_at hl 3 rfl) ?_
  refine lv_aload_n hx hb dX9_takeWord_85 rfl (lv_at hl 4 rfl) ?_
  refine va_get (D := (dC, dI)) (ci := 9) (v := .int 0) (C := RX9) (T := TX9) (N := 4) hx hb hts iX9 hown hK hP 0 rfl rfl 2 (by decide) (hts _ tw_41) (fun _ h9 => h9) rfl dX9_takeWord_86 ?_
  refine lv_isub hx hb dX9_takeWord_89 ?_
  refine lv_topi (fun x_57 ex_57 => ?_)
  obtain rfl : x_57 = 0 := ex_57.trans (by decide)
  refine lv_icmp_ne (tgt := 112) hx hb dX9_takeWord_90 (by decide) (fun c_58 => ?_) (fun c_58 => absurd c_58 (by decide))
  refine lv_iinc (v := 2) (lv' := [(3, .int 2), (5, .int 9), (4, .int 6), (2, .int 0), (0, .ref tp), (1, .ref (aK 0))]) hx hb dX9_takeWord_112 hl (k := 2) rfl (by decide) (by decide) rfl (fun ls hl => ?_)
  refine lv_iload hx hb dX9_takeWord_115 (lv_at hl 1 rfl) ?_
  refine lv_iconst (v := 1) hx hb dX9_takeWord_117 (by decide) ?_
  refine lv_iadd hx hb dX9_takeWord_118 ?_
  refine lv_topi (fun x_59 ex_59 => ?_)
  obtain rfl : x_59 = 10 := ex_59.trans (by decide)
  refine lv_istore (lv' := [(4, .int 10), (3, .int 2), (5, .int 9), (2, .int 0), (0, .ref tp), (1, .ref (aK 0))]) hx hb dX9_takeWord_119 hl (by decide) rfl (fun ls hl => ?_)
  refine lv_iinc (v := 10) (lv' := [(5, .int 10), (4, .int 10), (3, .int 2), (2, .int 0), (0, .ref tp), (1, .ref (aK 0))]) hx hb dX9_takeWord_121 hl (k := 2) rfl (by decide) (by decide) rfl (fun ls hl => ?_)
  refine lv_goto (tgt := 49) hx hb dX9_takeWord_124 (by decide) ?_
  refine lv_iload hx hb dX9_takeWord_49 (lv_at hl 0 rfl) ?_
  refine lv_aload_n hx hb dX9_takeWord_51 rfl (lv_at hl 5 rfl) ?_
  have hPc := hP.sub (ws' := []) [] rfl
  have hDc := hD.sub (ws' := []) [] (by decide) rfl
  have hKc := hK.sub (tys' := []) [] rfl
  have hFc := va_free (wc := []) hD hS hA [] rfl
  refine va_calli (va_runV (As := []) (rest := [.int 10]) ⟨hx, hb, hml, hown, hts⟩ (s_length l dC dI aK aV 0 (by decide) H.size) (cwV 0 hts (gUV tw_509 tw_510 tw_511 tw_15 tw_512) rfl rfl rfl (by decide +kernel) ⟨(Nat.le_of_ble_eq_true rfl), (Nat.le_of_ble_eq_true rfl)⟩) ⟨cPreS.blind, vk_recv hStr.1 (i := 0) (by decide) hS, cPreS.use hPc hKc hDc hE hStr hR hS hFc⟩ rfl rfl hl.1 rfl (lv_room (Nat.le_of_ble_eq_true rfl)) dX9_takeWord_52 ⟨(Nat.le_of_ble_eq_true rfl), (Nat.le_of_ble_eq_true rfl)⟩) hS (fun q _ h => hFc q h) hFc (fun r_60 u t H1 locs ht hvm hw hB hz1 hk1 hS => ?_)
  obtain ⟨hP, hD⟩ := va_join (wr := [(tp, .inr (9, [.ref tb, .int 0, .int 0, .int 0]))]) (w1 := []) hP hD [] [0] rfl rfl (by decide) (by decide) hk1 hFc (va_P_nil _ _ _) (va_D_nil _)
  generalize H1 = H at hP hS ⊢
  have hP : va_P (dC, dI) vwCl [(tp, .inr (9, [.ref tb, .int 0, .int 0, .int 0]))] H := hP
  have hD : va_D A [(tp, .inr (9, [.ref tb, .int 0, .int 0, .int 0]))] := hD
  obtain rfl : r_60 = 36 := hw.trans (by decide)
  refine lv_icmp_ge (tgt := 127) hx hb dX9_takeWord_55 (by decide) (fun c_61 => absurd c_61 (by decide)) (fun c_61 => ?_)
  refine lv_aload_n hx hb dX9_takeWord_58 rfl (lv_at hl 4 rfl) ?_
  refine va_get (D := (dC, dI)) (ci := 9) (v := .int 0) (C := RX9) (T := TX9) (N := 4) hx hb hts iX9 hown hK hP 0 rfl rfl 3 (by decide) (hts _ tw_44) (fun _ h9 => h9) rfl dX9_takeWord_59 ?_
  refine lv_if_ne (tgt := 127) hx hb dX9_takeWord_62 (by decide) (fun c_62 => absurd (by decide) c_62) (fun c_62 => ?_)
  refine lv_aload_n hx hb dX9_takeWord_65 rfl (lv_at hl 5 rfl) ?_
  refine lv_iload hx hb dX9_takeWord_66 (lv_at hl 0 rfl) ?_
  have hPc := hP.sub (ws' := []) [] rfl
  have hDc := hD.sub (ws' := []) [] (by decide) rfl
  have hKc := hK.sub (tys' := []) [] rfl
  have hFc := va_free (wc := []) hD hS hA [] rfl
  refine va_calli (va_runV (As := [.int 10]) (rest := []) ⟨hx, hb, hml, hown, hts⟩ (s_charAt l dC dI aK aV 0 10 (by decide) (by decide) H.size) (cwV 1 hts (gUV tw_519 tw_520 tw_521 tw_15 tw_522) rfl rfl rfl (by decide +kernel) ⟨(Nat.le_of_ble_eq_true rfl), (Nat.le_of_ble_eq_true rfl)⟩) ⟨cPreS.blind, vk_recv hStr.1 (i := 0) (by decide) hS, cPreS.use hPc hKc hDc hE hStr hR hS hFc⟩ rfl rfl hl.1 rfl (lv_room (Nat.le_of_ble_eq_true rfl)) dX9_takeWord_68 ⟨(Nat.le_of_ble_eq_true rfl), (Nat.le_of_ble_eq_true rfl)⟩) hS (fun q _ h => hFc q h) hFc (fun r_63 u t H1 locs ht hvm hw hB hz1 hk1 hS => ?_)
  obtain ⟨hP, hD⟩ := va_join (wr := [(tp, .inr (9, [.ref tb, .int 0, .int 0, .int 0]))]) (w1 := []) hP hD [] [0] rfl rfl (by decide) (by decide) hk1 hFc (va_P_nil _ _ _) (va_D_nil _)
  generalize H1 = H at hP hS ⊢
  have hP : va_P (dC, dI) vwCl [(tp, .inr (9, [.ref tb, .int 0, .int 0, .int 0]))] H := hP
  have hD : va_D A [(tp, .inr (9, [.ref tb, .int 0, .int 0, .int 0]))] := hD
  obtain rfl : r_63 = 108 := hw.trans (by decide)
  refine lv_bipush (v := 32) hx hb dX9_takeWord_71 (by decide) ?_
  refine lv_icmp_eq (tgt := 79) hx hb dX9_takeWord_73 (by decide) (fun c_64 => absurd c_64 (by decide)) (fun c_64 => ?_)
  refine lv_goto (tgt := 121) hx hb dX9_takeWord_76 (by decide) ?_
  refine lv_iinc (v := 11) (lv' := [(5, .int 11), (4, .int 10), (3, .int 2), (2, .int 0), (0, .ref tp), (1, .ref (aK 0))]) hx hb dX9_takeWord_121 hl (k := 0) rfl (by decide) (by decide) rfl (fun ls hl => ?_)
  refine lv_goto (tgt := 49) hx hb dX9_takeWord_124 (by decide) ?_
  refine lv_iload hx hb dX9_takeWord_49 (lv_at hl 0 rfl) ?_
  refine lv_aload_n hx hb dX9_takeWord_51 rfl (lv_at hl 5 rfl) ?_
  have hPc := hP.sub (ws' := []) [] rfl
  have hDc := hD.sub (ws' := []) [] (by decide) rfl
  have hKc := hK.sub (tys' := []) [] rfl
  have hFc := va_free (wc := []) hD hS hA [] rfl
  refine va_calli (va_runV (As := []) (rest := [.int 11]) ⟨hx, hb, hml, hown, hts⟩ (s_length l dC dI aK aV 0 (by decide) H.size) (cwV 0 hts (gUV tw_509 tw_510 tw_511 tw_15 tw_512) rfl rfl rfl (by decide +kernel) ⟨(Nat.le_of_ble_eq_true rfl), (Nat.le_of_ble_eq_true rfl)⟩) ⟨cPreS.blind, vk_recv hStr.1 (i := 0) (by decide) hS, cPreS.use hPc hKc hDc hE hStr hR hS hFc⟩ rfl rfl hl.1 rfl (lv_room (Nat.le_of_ble_eq_true rfl)) dX9_takeWord_52 ⟨(Nat.le_of_ble_eq_true rfl), (Nat.le_of_ble_eq_true rfl)⟩) hS (fun q _ h => hFc q h) hFc (fun r_65 u t H1 locs ht hvm hw hB hz1 hk1 hS => ?_)
  obtain ⟨hP, hD⟩ := va_join (wr := [(tp, .inr (9, [.ref tb, .int 0, .int 0, .int 0]))]) (w1 := []) hP hD [] [0] rfl rfl (by decide) (by decide) hk1 hFc (va_P_nil _ _ _) (va_D_nil _)
  generalize H1 = H at hP hS ⊢
  have hP : va_P (dC, dI) vwCl [(tp, .inr (9, [.ref tb, .int 0, .int 0, .int 0]))] H := hP
  have hD : va_D A [(tp, .inr (9, [.ref tb, .int 0, .int 0, .int 0]))] := hD
  obtain rfl : r_65 = 36 := hw.trans (by decide)
  refine lv_icmp_ge (tgt := 127) hx hb dX9_takeWord_55 (by decide) (fun c_66 => absurd c_66 (by decide)) (fun c_66 => ?_)
  refine lv_aload_n hx hb dX9_takeWord_58 rfl (lv_at hl 4 rfl) ?_
  refine va_get (D := (dC, dI)) (ci := 9) (v := .int 0) (C := RX9) (T := TX9) (N := 4) hx hb hts iX9 hown hK hP 0 rfl rfl 3 (by decide) (hts _ tw_44) (fun _ h9 => h9) rfl dX9_takeWord_59 ?_
  refine lv_if_ne (tgt := 127) hx hb dX9_takeWord_62 (by decide) (fun c_67 => absurd (by decide) c_67) (fun c_67 => ?_)
  refine lv_aload_n hx hb dX9_takeWord_65 rfl (lv_at hl 5 rfl) ?_
  refine lv_iload hx hb dX9_takeWord_66 (lv_at hl 0 rfl) ?_
  have hPc := hP.sub (ws' := []) [] rfl
  have hDc := hD.sub (ws' := []) [] (by decide) rfl
  have hKc := hK.sub (tys' := []) [] rfl
  have hFc := va_free (wc := []) hD hS hA [] rfl
  refine va_calli (va_runV (As := [.int 11]) (rest := []) ⟨hx, hb, hml, hown, hts⟩ (s_charAt l dC dI aK aV 0 11 (by decide) (by decide) H.size) (cwV 1 hts (gUV tw_519 tw_520 tw_521 tw_15 tw_522) rfl rfl rfl (by decide +kernel) ⟨(Nat.le_of_ble_eq_true rfl), (Nat.le_of_ble_eq_true rfl)⟩) ⟨cPreS.blind, vk_recv hStr.1 (i := 0) (by decide) hS, cPreS.use hPc hKc hDc hE hStr hR hS hFc⟩ rfl rfl hl.1 rfl (lv_room (Nat.le_of_ble_eq_true rfl)) dX9_takeWord_68 ⟨(Nat.le_of_ble_eq_true rfl), (Nat.le_of_ble_eq_true rfl)⟩) hS (fun q _ h => hFc q h) hFc (fun r_68 u t H1 locs ht hvm hw hB hz1 hk1 hS => ?_)
  obtain ⟨hP, hD⟩ := va_join (wr := [(tp, .inr (9, [.ref tb, .int 0, .int 0, .int 0]))]) (w1 := []) hP hD [] [0] rfl rfl (by decide) (by decide) hk1 hFc (va_P_nil _ _ _) (va_D_nil _)
  generalize H1 = H at hP hS ⊢
  have hP : va_P (dC, dI) vwCl [(tp, .inr (9, [.ref tb, .int 0, .int 0, .int 0]))] H := hP
  have hD : va_D A [(tp, .inr (9, [.ref tb, .int 0, .int 0, .int 0]))] := hD
  obtain rfl : r_68 = 105 := hw.trans (by decide)
  refine lv_bipush (v := 32) hx hb dX9_takeWord_71 (by decide) ?_
  refine lv_icmp_eq (tgt := 79) hx hb dX9_takeWord_73 (by decide) (fun c_69 => absurd c_69 (by decide)) (fun c_69 => ?_)
  refine lv_goto (tgt := 121) hx hb dX9_takeWord_76 (by decide) ?_
  refine lv_iinc (v := 12) (lv' := [(5, .int 12), (4, .int 10), (3, .int 2), (2, .int 0), (0, .ref tp), (1, .ref (aK 0))]) hx hb dX9_takeWord_121 hl (k := 0) rfl (by decide) (by decide) rfl (fun ls hl => ?_)
  refine lv_goto (tgt := 49) hx hb dX9_takeWord_124 (by decide) ?_
  refine lv_iload hx hb dX9_takeWord_49 (lv_at hl 0 rfl) ?_
  refine lv_aload_n hx hb dX9_takeWord_51 rfl (lv_at hl 5 rfl) ?_
  have hPc := hP.sub (ws' := []) [] rfl
  have hDc := hD.sub (ws' := []) [] (by decide) rfl
  have hKc := hK.sub (tys' := []) [] rfl
  have hFc := va_free (wc := []) hD hS hA [] rfl
  refine va_calli (va_runV (As := []) (rest := [.int 12]) ⟨hx, hb, hml, hown, hts⟩ (s_length l dC dI aK aV 0 (by decide) H.size) (cwV 0 hts (gUV tw_509 tw_510 tw_511 tw_15 tw_512) rfl rfl rfl (by decide +kernel) ⟨(Nat.le_of_ble_eq_true rfl), (Nat.le_of_ble_eq_true rfl)⟩) ⟨cPreS.blind, vk_recv hStr.1 (i := 0) (by decide) hS, cPreS.use hPc hKc hDc hE hStr hR hS hFc⟩ rfl rfl hl.1 rfl (lv_room (Nat.le_of_ble_eq_true rfl)) dX9_takeWord_52 ⟨(Nat.le_of_ble_eq_true rfl), (Nat.le_of_ble_eq_true rfl)⟩) hS (fun q _ h => hFc q h) hFc (fun r_70 u t H1 locs ht hvm hw hB hz1 hk1 hS => ?_)
  obtain ⟨hP, hD⟩ := va_join (wr := [(tp, .inr (9, [.ref tb, .int 0, .int 0, .int 0]))]) (w1 := []) hP hD [] [0] rfl rfl (by decide) (by decide) hk1 hFc (va_P_nil _ _ _) (va_D_nil _)
  generalize H1 = H at hP hS ⊢
  have hP : va_P (dC, dI) vwCl [(tp, .inr (9, [.ref tb, .int 0, .int 0, .int 0]))] H := hP
  have hD : va_D A [(tp, .inr (9, [.ref tb, .int 0, .int 0, .int 0]))] := hD
  obtain rfl : r_70 = 36 := hw.trans (by decide)
  refine lv_icmp_ge (tgt := 127) hx hb dX9_takeWord_55 (by decide) (fun c_71 => absurd c_71 (by decide)) (fun c_71 => ?_)
  refine lv_aload_n hx hb dX9_takeWord_58 rfl (lv_at hl 4 rfl) ?_
  refine va_get (D := (dC, dI)) (ci := 9) (v := .int 0) (C := RX9) (T := TX9) (N := 4) hx hb hts iX9 hown hK hP 0 rfl rfl 3 (by decide) (hts _ tw_44) (fun _ h9 => h9) rfl dX9_takeWord_59 ?_
  refine lv_if_ne (tgt := 127) hx hb dX9_takeWord_62 (by decide) (fun c_72 => absurd (by decide) c_72) (fun c_72 => ?_)
  refine lv_aload_n hx hb dX9_takeWord_65 rfl (lv_at hl 5 rfl) ?_
  refine lv_iload hx hb dX9_takeWord_66 (lv_at hl 0 rfl) ?_
  have hPc := hP.sub (ws' := []) [] rfl
  have hDc := hD.sub (ws' := []) [] (by decide) rfl
  have hKc := hK.sub (tys' := []) [] rfl
  have hFc := va_free (wc := []) hD hS hA [] rfl
  refine va_calli (va_runV (As := [.int 12]) (rest := []) ⟨hx, hb, hml, hown, hts⟩ (s_charAt l dC dI aK aV 0 12 (by decide) (by decide) H.size) (cwV 1 hts (gUV tw_519 tw_520 tw_521 tw_15 tw_522) rfl rfl rfl (by decide +kernel) ⟨(Nat.le_of_ble_eq_true rfl), (Nat.le_of_ble_eq_true rfl)⟩) ⟨cPreS.blind, vk_recv hStr.1 (i := 0) (by decide) hS, cPreS.use hPc hKc hDc hE hStr hR hS hFc⟩ rfl rfl hl.1 rfl (lv_room (Nat.le_of_ble_eq_true rfl)) dX9_takeWord_68 ⟨(Nat.le_of_ble_eq_true rfl), (Nat.le_of_ble_eq_true rfl)⟩) hS (fun q _ h => hFc q h) hFc (fun r_73 u t H1 locs ht hvm hw hB hz1 hk1 hS => ?_)
  obtain ⟨hP, hD⟩ := va_join (wr := [(tp, .inr (9, [.ref tb, .int 0, .int 0, .int 0]))]) (w1 := []) hP hD [] [0] rfl rfl (by decide) (by decide) hk1 hFc (va_P_nil _ _ _) (va_D_nil _)
  generalize H1 = H at hP hS ⊢
  have hP : va_P (dC, dI) vwCl [(tp, .inr (9, [.ref tb, .int 0, .int 0, .int 0]))] H := hP
  have hD : va_D A [(tp, .inr (9, [.ref tb, .int 0, .int 0, .int 0]))] := hD
  obtain rfl : r_73 = 107 := hw.trans (by decide)
  refine lv_bipush (v := 32) hx hb dX9_takeWord_71 (by decide) ?_
  refine lv_icmp_eq (tgt := 79) hx hb dX9_takeWord_73 (by decide) (fun c_74 => absurd c_74 (by decide)) (fun c_74 => ?_)
  refine lv_goto (tgt := 121) hx hb dX9_takeWord_76 (by decide) ?_
  refine lv_iinc (v := 13) (lv' := [(5, .int 13), (4, .int 10), (3, .int 2), (2, .int 0), (0, .ref tp), (1, .ref (aK 0))]) hx hb dX9_takeWord_121 hl (k := 0) rfl (by decide) (by decide) rfl (fun ls hl => ?_)
  refine lv_goto (tgt := 49) hx hb dX9_takeWord_124 (by decide) ?_
  refine lv_iload hx hb dX9_takeWord_49 (lv_at hl 0 rfl) ?_
  refine lv_aload_n hx hb dX9_takeWord_51 rfl (lv_at hl 5 rfl) ?_
  have hPc := hP.sub (ws' := []) [] rfl
  have hDc := hD.sub (ws' := []) [] (by decide) rfl
  have hKc := hK.sub (tys' := []) [] rfl
  have hFc := va_free (wc := []) hD hS hA [] rfl
  refine va_calli (va_runV (As := []) (rest := [.int 13]) ⟨hx, hb, hml, hown, hts⟩ (s_length l dC dI aK aV 0 (by decide) H.size) (cwV 0 hts (gUV tw_509 tw_510 tw_511 tw_15 tw_512) rfl rfl rfl (by decide +kernel) ⟨(Nat.le_of_ble_eq_true rfl), (Nat.le_of_ble_eq_true rfl)⟩) ⟨cPreS.blind, vk_recv hStr.1 (i := 0) (by decide) hS, cPreS.use hPc hKc hDc hE hStr hR hS hFc⟩ rfl rfl hl.1 rfl (lv_room (Nat.le_of_ble_eq_true rfl)) dX9_takeWord_52 ⟨(Nat.le_of_ble_eq_true rfl), (Nat.le_of_ble_eq_true rfl)⟩) hS (fun q _ h => hFc q h) hFc (fun r_75 u t H1 locs ht hvm hw hB hz1 hk1 hS => ?_)
  obtain ⟨hP, hD⟩ := va_join (wr := [(tp, .inr (9, [.ref tb, .int 0, .int 0, .int 0]))]) (w1 := []) hP hD [] [0] rfl rfl (by decide) (by decide) hk1 hFc (va_P_nil _ _ _) (va_D_nil _)
  generalize H1 = H at hP hS ⊢
  have hP : va_P (dC, dI) vwCl [(tp, .inr (9, [.ref tb, .int 0, .int 0, .int 0]))] H := hP
  have hD : va_D A [(tp, .inr (9, [.ref tb, .int 0, .int 0, .int 0]))] := hD
  obtain rfl : r_75 = 36 := hw.trans (by decide)
  refine lv_icmp_ge (tgt := 127) hx hb dX9_takeWord_55 (by decide) (fun c_76 => absurd c_76 (by decide)) (fun c_76 => ?_)
  refine lv_aload_n hx hb dX9_takeWord_58 rfl (lv_at hl 4 rfl) ?_
  refine va_get (D := (dC, dI)) (ci := 9) (v := .int 0) (C := RX9) (T := TX9) (N := 4) hx hb hts iX9 hown hK hP 0 rfl rfl 3 (by decide) (hts _ tw_44) (fun _ h9 => h9) rfl dX9_takeWord_59 ?_
  refine lv_if_ne (tgt := 127) hx hb dX9_takeWord_62 (by decide) (fun c_77 => absurd (by decide) c_77) (fun c_77 => ?_)
  refine lv_aload_n hx hb dX9_takeWord_65 rfl (lv_at hl 5 rfl) ?_
  refine lv_iload hx hb dX9_takeWord_66 (lv_at hl 0 rfl) ?_
  have hPc := hP.sub (ws' := []) [] rfl
  have hDc := hD.sub (ws' := []) [] (by decide) rfl
  have hKc := hK.sub (tys' := []) [] rfl
  have hFc := va_free (wc := []) hD hS hA [] rfl
  refine va_calli (va_runV (As := [.int 13]) (rest := []) ⟨hx, hb, hml, hown, hts⟩ (s_charAt l dC dI aK aV 0 13 (by decide) (by decide) H.size) (cwV 1 hts (gUV tw_519 tw_520 tw_521 tw_15 tw_522) rfl rfl rfl (by decide +kernel) ⟨(Nat.le_of_ble_eq_true rfl), (Nat.le_of_ble_eq_true rfl)⟩) ⟨cPreS.blind, vk_recv hStr.1 (i := 0) (by decide) hS, cPreS.use hPc hKc hDc hE hStr hR hS hFc⟩ rfl rfl hl.1 rfl (lv_room (Nat.le_of_ble_eq_true rfl)) dX9_takeWord_68 ⟨(Nat.le_of_ble_eq_true rfl), (Nat.le_of_ble_eq_true rfl)⟩) hS (fun q _ h => hFc q h) hFc (fun r_78 u t H1 locs ht hvm hw hB hz1 hk1 hS => ?_)
  obtain ⟨hP, hD⟩ := va_join (wr := [(tp, .inr (9, [.ref tb, .int 0, .int 0, .int 0]))]) (w1 := []) hP hD [] [0] rfl rfl (by decide) (by decide) hk1 hFc (va_P_nil _ _ _) (va_D_nil _)
  generalize H1 = H at hP hS ⊢
  have hP : va_P (dC, dI) vwCl [(tp, .inr (9, [.ref tb, .int 0, .int 0, .int 0]))] H := hP
  have hD : va_D A [(tp, .inr (9, [.ref tb, .int 0, .int 0, .int 0]))] := hD
  obtain rfl : r_78 = 101 := hw.trans (by decide)
  refine lv_bipush (v := 32) hx hb dX9_takeWord_71 (by decide) ?_
  refine lv_icmp_eq (tgt := 79) hx hb dX9_takeWord_73 (by decide) (fun c_79 => absurd c_79 (by decide)) (fun c_79 => ?_)
  refine lv_goto (tgt := 121) hx hb dX9_takeWord_76 (by decide) ?_
  refine lv_iinc (v := 14) (lv' := [(5, .int 14), (4, .int 10), (3, .int 2), (2, .int 0), (0, .ref tp), (1, .ref (aK 0))]) hx hb dX9_takeWord_121 hl (k := 0) rfl (by decide) (by decide) rfl (fun ls hl => ?_)
  refine lv_goto (tgt := 49) hx hb dX9_takeWord_124 (by decide) ?_
  refine lv_iload hx hb dX9_takeWord_49 (lv_at hl 0 rfl) ?_
  refine lv_aload_n hx hb dX9_takeWord_51 rfl (lv_at hl 5 rfl) ?_
  have hPc := hP.sub (ws' := []) [] rfl
  have hDc := hD.sub (ws' := []) [] (by decide) rfl
  have hKc := hK.sub (tys' := []) [] rfl
  have hFc := va_free (wc := []) hD hS hA [] rfl
  refine va_calli (va_runV (As := []) (rest := [.int 14]) ⟨hx, hb, hml, hown, hts⟩ (s_length l dC dI aK aV 0 (by decide) H.size) (cwV 0 hts (gUV tw_509 tw_510 tw_511 tw_15 tw_512) rfl rfl rfl (by decide +kernel) ⟨(Nat.le_of_ble_eq_true rfl), (Nat.le_of_ble_eq_true rfl)⟩) ⟨cPreS.blind, vk_recv hStr.1 (i := 0) (by decide) hS, cPreS.use hPc hKc hDc hE hStr hR hS hFc⟩ rfl rfl hl.1 rfl (lv_room (Nat.le_of_ble_eq_true rfl)) dX9_takeWord_52 ⟨(Nat.le_of_ble_eq_true rfl), (Nat.le_of_ble_eq_true rfl)⟩) hS (fun q _ h => hFc q h) hFc (fun r_80 u t H1 locs ht hvm hw hB hz1 hk1 hS => ?_)
  obtain ⟨hP, hD⟩ := va_join (wr := [(tp, .inr (9, [.ref tb, .int 0, .int 0, .int 0]))]) (w1 := []) hP hD [] [0] rfl rfl (by decide) (by decide) hk1 hFc (va_P_nil _ _ _) (va_D_nil _)
  generalize H1 = H at hP hS ⊢
  have hP : va_P (dC, dI) vwCl [(tp, .inr (9, [.ref tb, .int 0, .int 0, .int 0]))] H := hP
  have hD : va_D A [(tp, .inr (9, [.ref tb, .int 0, .int 0, .int 0]))] := hD
  obtain rfl : r_80 = 36 := hw.trans (by decide)
  refine lv_icmp_ge (tgt := 127) hx hb dX9_takeWord_55 (by decide) (fun c_81 => absurd c_81 (by decide)) (fun c_81 => ?_)
  refine lv_aload_n hx hb dX9_takeWord_58 rfl (lv_at hl 4 rfl) ?_
  refine va_get (D := (dC, dI)) (ci := 9) (v := .int 0) (C := RX9) (T := TX9) (N := 4) hx hb hts iX9 hown hK hP 0 rfl rfl 3 (by decide) (hts _ tw_44) (fun _ h9 => h9) rfl dX9_takeWord_59 ?_
  refine lv_if_ne (tgt := 127) hx hb dX9_takeWord_62 (by decide) (fun c_82 => absurd (by decide) c_82) (fun c_82 => ?_)
  refine lv_aload_n hx hb dX9_takeWord_65 rfl (lv_at hl 5 rfl) ?_
  refine lv_iload hx hb dX9_takeWord_66 (lv_at hl 0 rfl) ?_
  have hPc := hP.sub (ws' := []) [] rfl
  have hDc := hD.sub (ws' := []) [] (by decide) rfl
  have hKc := hK.sub (tys' := []) [] rfl
  have hFc := va_free (wc := []) hD hS hA [] rfl
  refine va_calli (va_runV (As := [.int 14]) (rest := []) ⟨hx, hb, hml, hown, hts⟩ (s_charAt l dC dI aK aV 0 14 (by decide) (by decide) H.size) (cwV 1 hts (gUV tw_519 tw_520 tw_521 tw_15 tw_522) rfl rfl rfl (by decide +kernel) ⟨(Nat.le_of_ble_eq_true rfl), (Nat.le_of_ble_eq_true rfl)⟩) ⟨cPreS.blind, vk_recv hStr.1 (i := 0) (by decide) hS, cPreS.use hPc hKc hDc hE hStr hR hS hFc⟩ rfl rfl hl.1 rfl (lv_room (Nat.le_of_ble_eq_true rfl)) dX9_takeWord_68 ⟨(Nat.le_of_ble_eq_true rfl), (Nat.le_of_ble_eq_true rfl)⟩) hS (fun q _ h => hFc q h) hFc (fun r_83 u t H1 locs ht hvm hw hB hz1 hk1 hS => ?_)
  obtain ⟨hP, hD⟩ := va_join (wr := [(tp, .inr (9, [.ref tb, .int 0, .int 0, .int 0]))]) (w1 := []) hP hD [] [0] rfl rfl (by decide) (by decide) hk1 hFc (va_P_nil _ _ _) (va_D_nil _)
  generalize H1 = H at hP hS ⊢
  have hP : va_P (dC, dI) vwCl [(tp, .inr (9, [.ref tb, .int 0, .int 0, .int 0]))] H := hP
  have hD : va_D A [(tp, .inr (9, [.ref tb, .int 0, .int 0, .int 0]))] := hD
  obtain rfl : r_83 = 115 := hw.trans (by decide)
  refine lv_bipush (v := 32) hx hb dX9_takeWord_71 (by decide) ?_
  refine lv_icmp_eq (tgt := 79) hx hb dX9_takeWord_73 (by decide) (fun c_84 => absurd c_84 (by decide)) (fun c_84 => ?_)
  refine lv_goto (tgt := 121) hx hb dX9_takeWord_76 (by decide) ?_
  refine lv_iinc (v := 15) (lv' := [(5, .int 15), (4, .int 10), (3, .int 2), (2, .int 0), (0, .ref tp), (1, .ref (aK 0))]) hx hb dX9_takeWord_121 hl (k := 0) rfl (by decide) (by decide) rfl (fun ls hl => ?_)
  refine lv_goto (tgt := 49) hx hb dX9_takeWord_124 (by decide) ?_
  refine lv_iload hx hb dX9_takeWord_49 (lv_at hl 0 rfl) ?_
  refine lv_aload_n hx hb dX9_takeWord_51 rfl (lv_at hl 5 rfl) ?_
  have hPc := hP.sub (ws' := []) [] rfl
  have hDc := hD.sub (ws' := []) [] (by decide) rfl
  have hKc := hK.sub (tys' := []) [] rfl
  have hFc := va_free (wc := []) hD hS hA [] rfl
  refine va_calli (va_runV (As := []) (rest := [.int 15]) ⟨hx, hb, hml, hown, hts⟩ (s_length l dC dI aK aV 0 (by decide) H.size) (cwV 0 hts (gUV tw_509 tw_510 tw_511 tw_15 tw_512) rfl rfl rfl (by decide +kernel) ⟨(Nat.le_of_ble_eq_true rfl), (Nat.le_of_ble_eq_true rfl)⟩) ⟨cPreS.blind, vk_recv hStr.1 (i := 0) (by decide) hS, cPreS.use hPc hKc hDc hE hStr hR hS hFc⟩ rfl rfl hl.1 rfl (lv_room (Nat.le_of_ble_eq_true rfl)) dX9_takeWord_52 ⟨(Nat.le_of_ble_eq_true rfl), (Nat.le_of_ble_eq_true rfl)⟩) hS (fun q _ h => hFc q h) hFc (fun r_85 u t H1 locs ht hvm hw hB hz1 hk1 hS => ?_)
  obtain ⟨hP, hD⟩ := va_join (wr := [(tp, .inr (9, [.ref tb, .int 0, .int 0, .int 0]))]) (w1 := []) hP hD [] [0] rfl rfl (by decide) (by decide) hk1 hFc (va_P_nil _ _ _) (va_D_nil _)
  generalize H1 = H at hP hS ⊢
  have hP : va_P (dC, dI) vwCl [(tp, .inr (9, [.ref tb, .int 0, .int 0, .int 0]))] H := hP
  have hD : va_D A [(tp, .inr (9, [.ref tb, .int 0, .int 0, .int 0]))] := hD
  obtain rfl : r_85 = 36 := hw.trans (by decide)
  refine lv_icmp_ge (tgt := 127) hx hb dX9_takeWord_55 (by decide) (fun c_86 => absurd c_86 (by decide)) (fun c_86 => ?_)
  refine lv_aload_n hx hb dX9_takeWord_58 rfl (lv_at hl 4 rfl) ?_
  refine va_get (D := (dC, dI)) (ci := 9) (v := .int 0) (C := RX9) (T := TX9) (N := 4) hx hb hts iX9 hown hK hP 0 rfl rfl 3 (by decide) (hts _ tw_44) (fun _ h9 => h9) rfl dX9_takeWord_59 ?_
  refine lv_if_ne (tgt := 127) hx hb dX9_takeWord_62 (by decide) (fun c_87 => absurd (by decide) c_87) (fun c_87 => ?_)
  refine lv_aload_n hx hb dX9_takeWord_65 rfl (lv_at hl 5 rfl) ?_
  refine lv_iload hx hb dX9_takeWord_66 (lv_at hl 0 rfl) ?_
  have hPc := hP.sub (ws' := []) [] rfl
  have hDc := hD.sub (ws' := []) [] (by decide) rfl
  have hKc := hK.sub (tys' := []) [] rfl
  have hFc := va_free (wc := []) hD hS hA [] rfl
  refine va_calli (va_runV (As := [.int 15]) (rest := []) ⟨hx, hb, hml, hown, hts⟩ (s_charAt l dC dI aK aV 0 15 (by decide) (by decide) H.size) (cwV 1 hts (gUV tw_519 tw_520 tw_521 tw_15 tw_522) rfl rfl rfl (by decide +kernel) ⟨(Nat.le_of_ble_eq_true rfl), (Nat.le_of_ble_eq_true rfl)⟩) ⟨cPreS.blind, vk_recv hStr.1 (i := 0) (by decide) hS, cPreS.use hPc hKc hDc hE hStr hR hS hFc⟩ rfl rfl hl.1 rfl (lv_room (Nat.le_of_ble_eq_true rfl)) dX9_takeWord_68 ⟨(Nat.le_of_ble_eq_true rfl), (Nat.le_of_ble_eq_true rfl)⟩) hS (fun q _ h => hFc q h) hFc (fun r_88 u t H1 locs ht hvm hw hB hz1 hk1 hS => ?_)
  obtain ⟨hP, hD⟩ := va_join (wr := [(tp, .inr (9, [.ref tb, .int 0, .int 0, .int 0]))]) (w1 := []) hP hD [] [0] rfl rfl (by decide) (by decide) hk1 hFc (va_P_nil _ _ _) (va_D_nil _)
  generalize H1 = H at hP hS ⊢
  have hP : va_P (dC, dI) vwCl [(tp, .inr (9, [.ref tb, .int 0, .int 0, .int 0]))] H := hP
  have hD : va_D A [(tp, .inr (9, [.ref tb, .int 0, .int 0, .int 0]))] := hD
  obtain rfl : r_88 = 32 := hw.trans (by decide)
  refine lv_bipush (v := 32) hx hb dX9_takeWord_71 (by decide) ?_
  refine lv_icmp_eq (tgt := 79) hx hb dX9_takeWord_73 (by decide) (fun c_89 => ?_) (fun c_89 => absurd (by decide) c_89)
  refine lv_iload hx hb dX9_takeWord_79 (lv_at hl 0 rfl) ?_
  refine lv_iload hx hb dX9_takeWord_81 (lv_at hl 1 rfl) ?_
  refine lv_isub hx hb dX9_takeWord_83 ?_
  refine lv_topi (fun x_90 ex_90 => ?_)
  obtain rfl : x_90 = 5 := ex_90.trans (by decide)
  refine lv_iload_n hx hb dX9_takeWord_84 rfl (lv_at hl 3 rfl) ?_
  refine lv_aload_n hx hb dX9_takeWord_85 rfl (lv_at hl 4 rfl) ?_
  refine va_get (D := (dC, dI)) (ci := 9) (v := .int 0) (C := RX9) (T := TX9) (N := 4) hx hb hts iX9 hown hK hP 0 rfl rfl 2 (by decide) (hts _ tw_41) (fun _ h9 => h9) rfl dX9_takeWord_86 ?_
  refine lv_isub hx hb dX9_takeWord_89 ?_
  refine lv_topi (fun x_91 ex_91 => ?_)
  obtain rfl : x_91 = 0 := ex_91.trans (by decide)
  refine lv_icmp_ne (tgt := 112) hx hb dX9_takeWord_90 (by decide) (fun c_92 => ?_) (fun c_92 => absurd c_92 (by decide))
  refine lv_iinc (v := 3) (lv' := [(3, .int 3), (5, .int 15), (4, .int 10), (2, .int 0), (0, .ref tp), (1, .ref (aK 0))]) hx hb dX9_takeWord_112 hl (k := 2) rfl (by decide) (by decide) rfl (fun ls hl => ?_)
  refine lv_iload hx hb dX9_takeWord_115 (lv_at hl 1 rfl) ?_
  refine lv_iconst (v := 1) hx hb dX9_takeWord_117 (by decide) ?_
  refine lv_iadd hx hb dX9_takeWord_118 ?_
  refine lv_topi (fun x_93 ex_93 => ?_)
  obtain rfl : x_93 = 16 := ex_93.trans (by decide)
  refine lv_istore (lv' := [(4, .int 16), (3, .int 3), (5, .int 15), (2, .int 0), (0, .ref tp), (1, .ref (aK 0))]) hx hb dX9_takeWord_119 hl (by decide) rfl (fun ls hl => ?_)
  refine lv_iinc (v := 16) (lv' := [(5, .int 16), (4, .int 16), (3, .int 3), (2, .int 0), (0, .ref tp), (1, .ref (aK 0))]) hx hb dX9_takeWord_121 hl (k := 2) rfl (by decide) (by decide) rfl (fun ls hl => ?_)
  refine lv_goto (tgt := 49) hx hb dX9_takeWord_124 (by decide) ?_
  refine lv_iload hx hb dX9_takeWord_49 (lv_at hl 0 rfl) ?_
  refine lv_aload_n hx hb dX9_takeWord_51 rfl (lv_at hl 5 rfl) ?_
  have hPc := hP.sub (ws' := []) [] rfl
  have hDc := hD.sub (ws' := []) [] (by decide) rfl
  have hKc := hK.sub (tys' := []) [] rfl
  have hFc := va_free (wc := []) hD hS hA [] rfl
  refine va_calli (va_runV (As := []) (rest := [.int 16]) ⟨hx, hb, hml, hown, hts⟩ (s_length l dC dI aK aV 0 (by decide) H.size) (cwV 0 hts (gUV tw_509 tw_510 tw_511 tw_15 tw_512) rfl rfl rfl (by decide +kernel) ⟨(Nat.le_of_ble_eq_true rfl), (Nat.le_of_ble_eq_true rfl)⟩) ⟨cPreS.blind, vk_recv hStr.1 (i := 0) (by decide) hS, cPreS.use hPc hKc hDc hE hStr hR hS hFc⟩ rfl rfl hl.1 rfl (lv_room (Nat.le_of_ble_eq_true rfl)) dX9_takeWord_52 ⟨(Nat.le_of_ble_eq_true rfl), (Nat.le_of_ble_eq_true rfl)⟩) hS (fun q _ h => hFc q h) hFc (fun r_94 u t H1 locs ht hvm hw hB hz1 hk1 hS => ?_)
  obtain ⟨hP, hD⟩ := va_join (wr := [(tp, .inr (9, [.ref tb, .int 0, .int 0, .int 0]))]) (w1 := []) hP hD [] [0] rfl rfl (by decide) (by decide) hk1 hFc (va_P_nil _ _ _) (va_D_nil _)
  generalize H1 = H at hP hS ⊢
  have hP : va_P (dC, dI) vwCl [(tp, .inr (9, [.ref tb, .int 0, .int 0, .int 0]))] H := hP
  have hD : va_D A [(tp, .inr (9, [.ref tb, .int 0, .int 0, .int 0]))] := hD
  obtain rfl : r_94 = 36 := hw.trans (by decide)
  refine lv_icmp_ge (tgt := 127) hx hb dX9_takeWord_55 (by decide) (fun c_95 => absurd c_95 (by decide)) (fun c_95 => ?_)
  refine lv_aload_n hx hb dX9_takeWord_58 rfl (lv_at hl 4 rfl) ?_
  refine va_get (D := (dC, dI)) (ci := 9) (v := .int 0) (C := RX9) (T := TX9) (N := 4) hx hb hts iX9 hown hK hP 0 rfl rfl 3 (by decide) (hts _ tw_44) (fun _ h9 => h9) rfl dX9_takeWord_59 ?_
  refine lv_if_ne (tgt := 127) hx hb dX9_takeWord_62 (by decide) (fun c_96 => absurd (by decide) c_96) (fun c_96 => ?_)
  refine lv_aload_n hx hb dX9_takeWord_65 rfl (lv_at hl 5 rfl) ?_
  refine lv_iload hx hb dX9_takeWord_66 (lv_at hl 0 rfl) ?_
  have hPc := hP.sub (ws' := []) [] rfl
  have hDc := hD.sub (ws' := []) [] (by decide) rfl
  have hKc := hK.sub (tys' := []) [] rfl
  have hFc := va_free (wc := []) hD hS hA [] rfl
  refine va_calli (va_runV (As := [.int 16]) (rest := []) ⟨hx, hb, hml, hown, hts⟩ (s_charAt l dC dI aK aV 0 16 (by decide) (by decide) H.size) (cwV 1 hts (gUV tw_519 tw_520 tw_521 tw_15 tw_522) rfl rfl rfl (by decide +kernel) ⟨(Nat.le_of_ble_eq_true rfl), (Nat.le_of_ble_eq_true rfl)⟩) ⟨cPreS.blind, vk_recv hStr.1 (i := 0) (by decide) hS, cPreS.use hPc hKc hDc hE hStr hR hS hFc⟩ rfl rfl hl.1 rfl (lv_room (Nat.le_of_ble_eq_true rfl)) dX9_takeWord_68 ⟨(Nat.le_of_ble_eq_true rfl), (Nat.le_of_ble_eq_true rfl)⟩) hS (fun q _ h => hFc q h) hFc (fun r_97 u t H1 locs ht hvm hw hB hz1 hk1 hS => ?_)
  obtain ⟨hP, hD⟩ := va_join (wr := [(tp, .inr (9, [.ref tb, .int 0, .int 0, .int 0]))]) (w1 := []) hP hD [] [0] rfl rfl (by decide) (by decide) hk1 hFc (va_P_nil _ _ _) (va_D_nil _)
  generalize H1 = H at hP hS ⊢
  have hP : va_P (dC, dI) vwCl [(tp, .inr (9, [.ref tb, .int 0, .int 0, .int 0]))] H := hP
  have hD : va_D A [(tp, .inr (9, [.ref tb, .int 0, .int 0, .int 0]))] := hD
  obtain rfl : r_97 = 99 := hw.trans (by decide)
  refine lv_bipush (v := 32) hx hb dX9_takeWord_71 (by decide) ?_
  refine lv_icmp_eq (tgt := 79) hx hb dX9_takeWord_73 (by decide) (fun c_98 => absurd c_98 (by decide)) (fun c_98 => ?_)
  refine lv_goto (tgt := 121) hx hb dX9_takeWord_76 (by decide) ?_
  refine lv_iinc (v := 17) (lv' := [(5, .int 17), (4, .int 16), (3, .int 3), (2, .int 0), (0, .ref tp), (1, .ref (aK 0))]) hx hb dX9_takeWord_121 hl (k := 0) rfl (by decide) (by decide) rfl (fun ls hl => ?_)
  refine lv_goto (tgt := 49) hx hb dX9_takeWord_124 (by decide) ?_
  refine lv_iload hx hb dX9_takeWord_49 (lv_at hl 0 rfl) ?_
  refine lv_aload_n hx hb dX9_takeWord_51 rfl (lv_at hl 5 rfl) ?_
  have hPc := hP.sub (ws' := []) [] rfl
  have hDc := hD.sub (ws' := []) [] (by decide) rfl
  have hKc := hK.sub (tys' := []) [] rfl
  have hFc := va_free (wc := []) hD hS hA [] rfl
  refine va_calli (va_runV (As := []) (rest := [.int 17]) ⟨hx, hb, hml, hown, hts⟩ (s_length l dC dI aK aV 0 (by decide) H.size) (cwV 0 hts (gUV tw_509 tw_510 tw_511 tw_15 tw_512) rfl rfl rfl (by decide +kernel) ⟨(Nat.le_of_ble_eq_true rfl), (Nat.le_of_ble_eq_true rfl)⟩) ⟨cPreS.blind, vk_recv hStr.1 (i := 0) (by decide) hS, cPreS.use hPc hKc hDc hE hStr hR hS hFc⟩ rfl rfl hl.1 rfl (lv_room (Nat.le_of_ble_eq_true rfl)) dX9_takeWord_52 ⟨(Nat.le_of_ble_eq_true rfl), (Nat.le_of_ble_eq_true rfl)⟩) hS (fun q _ h => hFc q h) hFc (fun r_99 u t H1 locs ht hvm hw hB hz1 hk1 hS => ?_)
  obtain ⟨hP, hD⟩ := va_join (wr := [(tp, .inr (9, [.ref tb, .int 0, .int 0, .int 0]))]) (w1 := []) hP hD [] [0] rfl rfl (by decide) (by decide) hk1 hFc (va_P_nil _ _ _) (va_D_nil _)
  generalize H1 = H at hP hS ⊢
  have hP : va_P (dC, dI) vwCl [(tp, .inr (9, [.ref tb, .int 0, .int 0, .int 0]))] H := hP
  have hD : va_D A [(tp, .inr (9, [.ref tb, .int 0, .int 0, .int 0]))] := hD
  obtain rfl : r_99 = 36 := hw.trans (by decide)
  refine lv_icmp_ge (tgt := 127) hx hb dX9_takeWord_55 (by decide) (fun c_100 => absurd c_100 (by decide)) (fun c_100 => ?_)
  refine lv_aload_n hx hb dX9_takeWord_58 rfl (lv_at hl 4 rfl) ?_
  refine va_get (D := (dC, dI)) (ci := 9) (v := .int 0) (C := RX9) (T := TX9) (N := 4) hx hb hts iX9 hown hK hP 0 rfl rfl 3 (by decide) (hts _ tw_44) (fun _ h9 => h9) rfl dX9_takeWord_59 ?_
  refine lv_if_ne (tgt := 127) hx hb dX9_takeWord_62 (by decide) (fun c_101 => absurd (by decide) c_101) (fun c_101 => ?_)
  refine lv_aload_n hx hb dX9_takeWord_65 rfl (lv_at hl 5 rfl) ?_
  refine lv_iload hx hb dX9_takeWord_66 (lv_at hl 0 rfl) ?_
  have hPc := hP.sub (ws' := []) [] rfl
  have hDc := hD.sub (ws' := []) [] (by decide) rfl
  have hKc := hK.sub (tys' := []) [] rfl
  have hFc := va_free (wc := []) hD hS hA [] rfl
  refine va_calli (va_runV (As := [.int 17]) (rest := []) ⟨hx, hb, hml, hown, hts⟩ (s_charAt l dC dI aK aV 0 17 (by decide) (by decide) H.size) (cwV 1 hts (gUV tw_519 tw_520 tw_521 tw_15 tw_522) rfl rfl rfl (by decide +kernel) ⟨(Nat.le_of_ble_eq_true rfl), (Nat.le_of_ble_eq_true rfl)⟩) ⟨cPreS.blind, vk_recv hStr.1 (i := 0) (by decide) hS, cPreS.use hPc hKc hDc hE hStr hR hS hFc⟩ rfl rfl hl.1 rfl (lv_room (Nat.le_of_ble_eq_true rfl)) dX9_takeWord_68 ⟨(Nat.le_of_ble_eq_true rfl), (Nat.le_of_ble_eq_true rfl)⟩) hS (fun q _ h => hFc q h) hFc (fun r_102 u t H1 locs ht hvm hw hB hz1 hk1 hS => ?_)
  obtain ⟨hP, hD⟩ := va_join (wr := [(tp, .inr (9, [.ref tb, .int 0, .int 0, .int 0]))]) (w1 := []) hP hD [] [0] rfl rfl (by decide) (by decide) hk1 hFc (va_P_nil _ _ _) (va_D_nil _)
  generalize H1 = H at hP hS ⊢
  have hP : va_P (dC, dI) vwCl [(tp, .inr (9, [.ref tb, .int 0, .int 0, .int 0]))] H := hP
  have hD : va_D A [(tp, .inr (9, [.ref tb, .int 0, .int 0, .int 0]))] := hD
  obtain rfl : r_102 = 97 := hw.trans (by decide)
  refine lv_bipush (v := 32) hx hb dX9_takeWord_71 (by decide) ?_
  refine lv_icmp_eq (tgt := 79) hx hb dX9_takeWord_73 (by decide) (fun c_103 => absurd c_103 (by decide)) (fun c_103 => ?_)
  refine lv_goto (tgt := 121) hx hb dX9_takeWord_76 (by decide) ?_
  refine lv_iinc (v := 18) (lv' := [(5, .int 18), (4, .int 16), (3, .int 3), (2, .int 0), (0, .ref tp), (1, .ref (aK 0))]) hx hb dX9_takeWord_121 hl (k := 0) rfl (by decide) (by decide) rfl (fun ls hl => ?_)
  refine lv_goto (tgt := 49) hx hb dX9_takeWord_124 (by decide) ?_
  refine lv_iload hx hb dX9_takeWord_49 (lv_at hl 0 rfl) ?_
  refine lv_aload_n hx hb dX9_takeWord_51 rfl (lv_at hl 5 rfl) ?_
  have hPc := hP.sub (ws' := []) [] rfl
  have hDc := hD.sub (ws' := []) [] (by decide) rfl
  have hKc := hK.sub (tys' := []) [] rfl
  have hFc := va_free (wc := []) hD hS hA [] rfl
  refine va_calli (va_runV (As := []) (rest := [.int 18]) ⟨hx, hb, hml, hown, hts⟩ (s_length l dC dI aK aV 0 (by decide) H.size) (cwV 0 hts (gUV tw_509 tw_510 tw_511 tw_15 tw_512) rfl rfl rfl (by decide +kernel) ⟨(Nat.le_of_ble_eq_true rfl), (Nat.le_of_ble_eq_true rfl)⟩) ⟨cPreS.blind, vk_recv hStr.1 (i := 0) (by decide) hS, cPreS.use hPc hKc hDc hE hStr hR hS hFc⟩ rfl rfl hl.1 rfl (lv_room (Nat.le_of_ble_eq_true rfl)) dX9_takeWord_52 ⟨(Nat.le_of_ble_eq_true rfl), (Nat.le_of_ble_eq_true rfl)⟩) hS (fun q _ h => hFc q h) hFc (fun r_104 u t H1 locs ht hvm hw hB hz1 hk1 hS => ?_)
  obtain ⟨hP, hD⟩ := va_join (wr := [(tp, .inr (9, [.ref tb, .int 0, .int 0, .int 0]))]) (w1 := []) hP hD [] [0] rfl rfl (by decide) (by decide) hk1 hFc (va_P_nil _ _ _) (va_D_nil _)
  generalize H1 = H at hP hS ⊢
  have hP : va_P (dC, dI) vwCl [(tp, .inr (9, [.ref tb, .int 0, .int 0, .int 0]))] H := hP
  have hD : va_D A [(tp, .inr (9, [.ref tb, .int 0, .int 0, .int 0]))] := hD
  obtain rfl : r_104 = 36 := hw.trans (by decide)
  refine lv_icmp_ge (tgt := 127) hx hb dX9_takeWord_55 (by decide) (fun c_105 => absurd c_105 (by decide)) (fun c_105 => ?_)
  refine lv_aload_n hx hb dX9_takeWord_58 rfl (lv_at hl 4 rfl) ?_
  refine va_get (D := (dC, dI)) (ci := 9) (v := .int 0) (C := RX9) (T := TX9) (N := 4) hx hb hts iX9 hown hK hP 0 rfl rfl 3 (by decide) (hts _ tw_44) (fun _ h9 => h9) rfl dX9_takeWord_59 ?_
  refine lv_if_ne (tgt := 127) hx hb dX9_takeWord_62 (by decide) (fun c_106 => absurd (by decide) c_106) (fun c_106 => ?_)
  refine lv_aload_n hx hb dX9_takeWord_65 rfl (lv_at hl 5 rfl) ?_
  refine lv_iload hx hb dX9_takeWord_66 (lv_at hl 0 rfl) ?_
  have hPc := hP.sub (ws' := []) [] rfl
  have hDc := hD.sub (ws' := []) [] (by decide) rfl
  have hKc := hK.sub (tys' := []) [] rfl
  have hFc := va_free (wc := []) hD hS hA [] rfl
  refine va_calli (va_runV (As := [.int 18]) (rest := []) ⟨hx, hb, hml, hown, hts⟩ (s_charAt l dC dI aK aV 0 18 (by decide) (by decide) H.size) (cwV 1 hts (gUV tw_519 tw_520 tw_521 tw_15 tw_522) rfl rfl rfl (by decide +kernel) ⟨(Nat.le_of_ble_eq_true rfl), (Nat.le_of_ble_eq_true rfl)⟩) ⟨cPreS.blind, vk_recv hStr.1 (i := 0) (by decide) hS, cPreS.use hPc hKc hDc hE hStr hR hS hFc⟩ rfl rfl hl.1 rfl (lv_room (Nat.le_of_ble_eq_true rfl)) dX9_takeWord_68 ⟨(Nat.le_of_ble_eq_true rfl), (Nat.le_of_ble_eq_true rfl)⟩) hS (fun q _ h => hFc q h) hFc (fun r_107 u t H1 locs ht hvm hw hB hz1 hk1 hS => ?_)
  obtain ⟨hP, hD⟩ := va_join (wr := [(tp, .inr (9, [.ref tb, .int 0, .int 0, .int 0]))]) (w1 := []) hP hD [] [0] rfl rfl (by decide) (by decide) hk1 hFc (va_P_nil _ _ _) (va_D_nil _)
  generalize H1 = H at hP hS ⊢
  have hP : va_P (dC, dI) vwCl [(tp, .inr (9, [.ref tb, .int 0, .int 0, .int 0]))] H := hP
  have hD : va_D A [(tp, .inr (9, [.ref tb, .int 0, .int 0, .int 0]))] := hD
  obtain rfl : r_107 = 110 := hw.trans (by decide)
  refine lv_bipush (v := 32) hx hb dX9_takeWord_71 (by decide) ?_
  refine lv_icmp_eq (tgt := 79) hx hb dX9_takeWord_73 (by decide) (fun c_108 => absurd c_108 (by decide)) (fun c_108 => ?_)
  refine lv_goto (tgt := 121) hx hb dX9_takeWord_76 (by decide) ?_
  refine lv_iinc (v := 19) (lv' := [(5, .int 19), (4, .int 16), (3, .int 3), (2, .int 0), (0, .ref tp), (1, .ref (aK 0))]) hx hb dX9_takeWord_121 hl (k := 0) rfl (by decide) (by decide) rfl (fun ls hl => ?_)
  refine lv_goto (tgt := 49) hx hb dX9_takeWord_124 (by decide) ?_
  refine lv_iload hx hb dX9_takeWord_49 (lv_at hl 0 rfl) ?_
  refine lv_aload_n hx hb dX9_takeWord_51 rfl (lv_at hl 5 rfl) ?_
  have hPc := hP.sub (ws' := []) [] rfl
  have hDc := hD.sub (ws' := []) [] (by decide) rfl
  have hKc := hK.sub (tys' := []) [] rfl
  have hFc := va_free (wc := []) hD hS hA [] rfl
  refine va_calli (va_runV (As := []) (rest := [.int 19]) ⟨hx, hb, hml, hown, hts⟩ (s_length l dC dI aK aV 0 (by decide) H.size) (cwV 0 hts (gUV tw_509 tw_510 tw_511 tw_15 tw_512) rfl rfl rfl (by decide +kernel) ⟨(Nat.le_of_ble_eq_true rfl), (Nat.le_of_ble_eq_true rfl)⟩) ⟨cPreS.blind, vk_recv hStr.1 (i := 0) (by decide) hS, cPreS.use hPc hKc hDc hE hStr hR hS hFc⟩ rfl rfl hl.1 rfl (lv_room (Nat.le_of_ble_eq_true rfl)) dX9_takeWord_52 ⟨(Nat.le_of_ble_eq_true rfl), (Nat.le_of_ble_eq_true rfl)⟩) hS (fun q _ h => hFc q h) hFc (fun r_109 u t H1 locs ht hvm hw hB hz1 hk1 hS => ?_)
  obtain ⟨hP, hD⟩ := va_join (wr := [(tp, .inr (9, [.ref tb, .int 0, .int 0, .int 0]))]) (w1 := []) hP hD [] [0] rfl rfl (by decide) (by decide) hk1 hFc (va_P_nil _ _ _) (va_D_nil _)
  generalize H1 = H at hP hS ⊢
  have hP : va_P (dC, dI) vwCl [(tp, .inr (9, [.ref tb, .int 0, .int 0, .int 0]))] H := hP
  have hD : va_D A [(tp, .inr (9, [.ref tb, .int 0, .int 0, .int 0]))] := hD
  obtain rfl : r_109 = 36 := hw.trans (by decide)
  refine lv_icmp_ge (tgt := 127) hx hb dX9_takeWord_55 (by decide) (fun c_110 => absurd c_110 (by decide)) (fun c_110 => ?_)
  refine lv_aload_n hx hb dX9_takeWord_58 rfl (lv_at hl 4 rfl) ?_
  refine va_get (D := (dC, dI)) (ci := 9) (v := .int 0) (C := RX9) (T := TX9) (N := 4) hx hb hts iX9 hown hK hP 0 rfl rfl 3 (by decide) (hts _ tw_44) (fun _ h9 => h9) rfl dX9_takeWord_59 ?_
  refine lv_if_ne (tgt := 127) hx hb dX9_takeWord_62 (by decide) (fun c_111 => absurd (by decide) c_111) (fun c_111 => ?_)
  refine lv_aload_n hx hb dX9_takeWord_65 rfl (lv_at hl 5 rfl) ?_
  refine lv_iload hx hb dX9_takeWord_66 (lv_at hl 0 rfl) ?_
  have hPc := hP.sub (ws' := []) [] rfl
  have hDc := hD.sub (ws' := []) [] (by decide) rfl
  have hKc := hK.sub (tys' := []) [] rfl
  have hFc := va_free (wc := []) hD hS hA [] rfl
  refine va_calli (va_runV (As := [.int 19]) (rest := []) ⟨hx, hb, hml, hown, hts⟩ (s_charAt l dC dI aK aV 0 19 (by decide) (by decide) H.size) (cwV 1 hts (gUV tw_519 tw_520 tw_521 tw_15 tw_522) rfl rfl rfl (by decide +kernel) ⟨(Nat.le_of_ble_eq_true rfl), (Nat.le_of_ble_eq_true rfl)⟩) ⟨cPreS.blind, vk_recv hStr.1 (i := 0) (by decide) hS, cPreS.use hPc hKc hDc hE hStr hR hS hFc⟩ rfl rfl hl.1 rfl (lv_room (Nat.le_of_ble_eq_true rfl)) dX9_takeWord_68 ⟨(Nat.le_of_ble_eq_true rfl), (Nat.le_of_ble_eq_true rfl)⟩) hS (fun q _ h => hFc q h) hFc (fun r_112 u t H1 locs ht hvm hw hB hz1 hk1 hS => ?_)
  obtain ⟨hP, hD⟩ := va_join (wr := [(tp, .inr (9, [.ref tb, .int 0, .int 0, .int 0]))]) (w1 := []) hP hD [] [0] rfl rfl (by decide) (by decide) hk1 hFc (va_P_nil _ _ _) (va_D_nil _)
  generalize H1 = H at hP hS ⊢
  have hP : va_P (dC, dI) vwCl [(tp, .inr (9, [.ref tb, .int 0, .int 0, .int 0]))] H := hP
  have hD : va_D A [(tp, .inr (9, [.ref tb, .int 0, .int 0, .int 0]))] := hD
  obtain rfl : r_112 = 111 := hw.trans (by decide)
  refine lv_bipush (v := 32) hx hb dX9_takeWord_71 (by decide) ?_
  refine lv_icmp_eq (tgt := 79) hx hb dX9_takeWord_73 (by decide) (fun c_113 => absurd c_113 (by decide)) (fun c_113 => ?_)
  refine lv_goto (tgt := 121) hx hb dX9_takeWord_76 (by decide) ?_
  refine lv_iinc (v := 20) (lv' := [(5, .int 20), (4, .int 16), (3, .int 3), (2, .int 0), (0, .ref tp), (1, .ref (aK 0))]) hx hb dX9_takeWord_121 hl (k := 0) rfl (by decide) (by decide) rfl (fun ls hl => ?_)
  refine lv_goto (tgt := 49) hx hb dX9_takeWord_124 (by decide) ?_
  refine lv_iload hx hb dX9_takeWord_49 (lv_at hl 0 rfl) ?_
  refine lv_aload_n hx hb dX9_takeWord_51 rfl (lv_at hl 5 rfl) ?_
  have hPc := hP.sub (ws' := []) [] rfl
  have hDc := hD.sub (ws' := []) [] (by decide) rfl
  have hKc := hK.sub (tys' := []) [] rfl
  have hFc := va_free (wc := []) hD hS hA [] rfl
  refine va_calli (va_runV (As := []) (rest := [.int 20]) ⟨hx, hb, hml, hown, hts⟩ (s_length l dC dI aK aV 0 (by decide) H.size) (cwV 0 hts (gUV tw_509 tw_510 tw_511 tw_15 tw_512) rfl rfl rfl (by decide +kernel) ⟨(Nat.le_of_ble_eq_true rfl), (Nat.le_of_ble_eq_true rfl)⟩) ⟨cPreS.blind, vk_recv hStr.1 (i := 0) (by decide) hS, cPreS.use hPc hKc hDc hE hStr hR hS hFc⟩ rfl rfl hl.1 rfl (lv_room (Nat.le_of_ble_eq_true rfl)) dX9_takeWord_52 ⟨(Nat.le_of_ble_eq_true rfl), (Nat.le_of_ble_eq_true rfl)⟩) hS (fun q _ h => hFc q h) hFc (fun r_114 u t H1 locs ht hvm hw hB hz1 hk1 hS => ?_)
  obtain ⟨hP, hD⟩ := va_join (wr := [(tp, .inr (9, [.ref tb, .int 0, .int 0, .int 0]))]) (w1 := []) hP hD [] [0] rfl rfl (by decide) (by decide) hk1 hFc (va_P_nil _ _ _) (va_D_nil _)
  generalize H1 = H at hP hS ⊢
  have hP : va_P (dC, dI) vwCl [(tp, .inr (9, [.ref tb, .int 0, .int 0, .int 0]))] H := hP
  have hD : va_D A [(tp, .inr (9, [.ref tb, .int 0, .int 0, .int 0]))] := hD
  obtain rfl : r_114 = 36 := hw.trans (by decide)
  refine lv_icmp_ge (tgt := 127) hx hb dX9_takeWord_55 (by decide) (fun c_115 => absurd c_115 (by decide)) (fun c_115 => ?_)
  refine lv_aload_n hx hb dX9_takeWord_58 rfl (lv_at hl 4 rfl) ?_
  refine va_get (D := (dC, dI)) (ci := 9) (v := .int 0) (C := RX9) (T := TX9) (N := 4) hx hb hts iX9 hown hK hP 0 rfl rfl 3 (by decide) (hts _ tw_44) (fun _ h9 => h9) rfl dX9_takeWord_59 ?_
  refine lv_if_ne (tgt := 127) hx hb dX9_takeWord_62 (by decide) (fun c_116 => absurd (by decide) c_116) (fun c_116 => ?_)
  refine lv_aload_n hx hb dX9_takeWord_65 rfl (lv_at hl 5 rfl) ?_
  refine lv_iload hx hb dX9_takeWord_66 (lv_at hl 0 rfl) ?_
  have hPc := hP.sub (ws' := []) [] rfl
  have hDc := hD.sub (ws' := []) [] (by decide) rfl
  have hKc := hK.sub (tys' := []) [] rfl
  have hFc := va_free (wc := []) hD hS hA [] rfl
  refine va_calli (va_runV (As := [.int 20]) (rest := []) ⟨hx, hb, hml, hown, hts⟩ (s_charAt l dC dI aK aV 0 20 (by decide) (by decide) H.size) (cwV 1 hts (gUV tw_519 tw_520 tw_521 tw_15 tw_522) rfl rfl rfl (by decide +kernel) ⟨(Nat.le_of_ble_eq_true rfl), (Nat.le_of_ble_eq_true rfl)⟩) ⟨cPreS.blind, vk_recv hStr.1 (i := 0) (by decide) hS, cPreS.use hPc hKc hDc hE hStr hR hS hFc⟩ rfl rfl hl.1 rfl (lv_room (Nat.le_of_ble_eq_true rfl)) dX9_takeWord_68 ⟨(Nat.le_of_ble_eq_true rfl), (Nat.le_of_ble_eq_true rfl)⟩) hS (fun q _ h => hFc q h) hFc (fun r_117 u t H1 locs ht hvm hw hB hz1 hk1 hS => ?_)
  obtain ⟨hP, hD⟩ := va_join (wr := [(tp, .inr (9, [.ref tb, .int 0, .int 0, .int 0]))]) (w1 := []) hP hD [] [0] rfl rfl (by decide) (by decide) hk1 hFc (va_P_nil _ _ _) (va_D_nil _)
  generalize H1 = H at hP hS ⊢
  have hP : va_P (dC, dI) vwCl [(tp, .inr (9, [.ref tb, .int 0, .int 0, .int 0]))] H := hP
  have hD : va_D A [(tp, .inr (9, [.ref tb, .int 0, .int 0, .int 0]))] := hD
  obtain rfl : r_117 = 110 := hw.trans (by decide)
  refine lv_bipush (v := 32) hx hb dX9_takeWord_71 (by decide) ?_
  refine lv_icmp_eq (tgt := 79) hx hb dX9_takeWord_73 (by decide) (fun c_118 => absurd c_118 (by decide)) (fun c_118 => ?_)
  refine lv_goto (tgt := 121) hx hb dX9_takeWord_76 (by decide) ?_
  refine lv_iinc (v := 21) (lv' := [(5, .int 21), (4, .int 16), (3, .int 3), (2, .int 0), (0, .ref tp), (1, .ref (aK 0))]) hx hb dX9_takeWord_121 hl (k := 0) rfl (by decide) (by decide) rfl (fun ls hl => ?_)
  refine lv_goto (tgt := 49) hx hb dX9_takeWord_124 (by decide) ?_
  refine lv_iload hx hb dX9_takeWord_49 (lv_at hl 0 rfl) ?_
  refine lv_aload_n hx hb dX9_takeWord_51 rfl (lv_at hl 5 rfl) ?_
  have hPc := hP.sub (ws' := []) [] rfl
  have hDc := hD.sub (ws' := []) [] (by decide) rfl
  have hKc := hK.sub (tys' := []) [] rfl
  have hFc := va_free (wc := []) hD hS hA [] rfl
  refine va_calli (va_runV (As := []) (rest := [.int 21]) ⟨hx, hb, hml, hown, hts⟩ (s_length l dC dI aK aV 0 (by decide) H.size) (cwV 0 hts (gUV tw_509 tw_510 tw_511 tw_15 tw_512) rfl rfl rfl (by decide +kernel) ⟨(Nat.le_of_ble_eq_true rfl), (Nat.le_of_ble_eq_true rfl)⟩) ⟨cPreS.blind, vk_recv hStr.1 (i := 0) (by decide) hS, cPreS.use hPc hKc hDc hE hStr hR hS hFc⟩ rfl rfl hl.1 rfl (lv_room (Nat.le_of_ble_eq_true rfl)) dX9_takeWord_52 ⟨(Nat.le_of_ble_eq_true rfl), (Nat.le_of_ble_eq_true rfl)⟩) hS (fun q _ h => hFc q h) hFc (fun r_119 u t H1 locs ht hvm hw hB hz1 hk1 hS => ?_)
  obtain ⟨hP, hD⟩ := va_join (wr := [(tp, .inr (9, [.ref tb, .int 0, .int 0, .int 0]))]) (w1 := []) hP hD [] [0] rfl rfl (by decide) (by decide) hk1 hFc (va_P_nil _ _ _) (va_D_nil _)
  generalize H1 = H at hP hS ⊢
  have hP : va_P (dC, dI) vwCl [(tp, .inr (9, [.ref tb, .int 0, .int 0, .int 0]))] H := hP
  have hD : va_D A [(tp, .inr (9, [.ref tb, .int 0, .int 0, .int 0]))] := hD
  obtain rfl : r_119 = 36 := hw.trans (by decide)
  refine lv_icmp_ge (tgt := 127) hx hb dX9_takeWord_55 (by decide) (fun c_120 => absurd c_120 (by decide)) (fun c_120 => ?_)
  refine lv_aload_n hx hb dX9_takeWord_58 rfl (lv_at hl 4 rfl) ?_
  refine va_get (D := (dC, dI)) (ci := 9) (v := .int 0) (C := RX9) (T := TX9) (N := 4) hx hb hts iX9 hown hK hP 0 rfl rfl 3 (by decide) (hts _ tw_44) (fun _ h9 => h9) rfl dX9_takeWord_59 ?_
  refine lv_if_ne (tgt := 127) hx hb dX9_takeWord_62 (by decide) (fun c_121 => absurd (by decide) c_121) (fun c_121 => ?_)
  refine lv_aload_n hx hb dX9_takeWord_65 rfl (lv_at hl 5 rfl) ?_
  refine lv_iload hx hb dX9_takeWord_66 (lv_at hl 0 rfl) ?_
  have hPc := hP.sub (ws' := []) [] rfl
  have hDc := hD.sub (ws' := []) [] (by decide) rfl
  have hKc := hK.sub (tys' := []) [] rfl
  have hFc := va_free (wc := []) hD hS hA [] rfl
  refine va_calli (va_runV (As := [.int 21]) (rest := []) ⟨hx, hb, hml, hown, hts⟩ (s_charAt l dC dI aK aV 0 21 (by decide) (by decide) H.size) (cwV 1 hts (gUV tw_519 tw_520 tw_521 tw_15 tw_522) rfl rfl rfl (by decide +kernel) ⟨(Nat.le_of_ble_eq_true rfl), (Nat.le_of_ble_eq_true rfl)⟩) ⟨cPreS.blind, vk_recv hStr.1 (i := 0) (by decide) hS, cPreS.use hPc hKc hDc hE hStr hR hS hFc⟩ rfl rfl hl.1 rfl (lv_room (Nat.le_of_ble_eq_true rfl)) dX9_takeWord_68 ⟨(Nat.le_of_ble_eq_true rfl), (Nat.le_of_ble_eq_true rfl)⟩) hS (fun q _ h => hFc q h) hFc (fun r_122 u t H1 locs ht hvm hw hB hz1 hk1 hS => ?_)
  obtain ⟨hP, hD⟩ := va_join (wr := [(tp, .inr (9, [.ref tb, .int 0, .int 0, .int 0]))]) (w1 := []) hP hD [] [0] rfl rfl (by decide) (by decide) hk1 hFc (va_P_nil _ _ _) (va_D_nil _)
  generalize H1 = H at hP hS ⊢
  have hP : va_P (dC, dI) vwCl [(tp, .inr (9, [.ref tb, .int 0, .int 0, .int 0]))] H := hP
  have hD : va_D A [(tp, .inr (9, [.ref tb, .int 0, .int 0, .int 0]))] := hD
  obtain rfl : r_122 = 32 := hw.trans (by decide)
  refine lv_bipush (v := 32) hx hb dX9_takeWord_71 (by decide) ?_
  refine lv_icmp_eq (tgt := 79) hx hb dX9_takeWord_73 (by decide) (fun c_123 => ?_) (fun c_123 => absurd (by decide) c_123)
  refine lv_iload hx hb dX9_takeWord_79 (lv_at hl 0 rfl) ?_
  refine lv_iload hx hb dX9_takeWord_81 (lv_at hl 1 rfl) ?_
  refine lv_isub hx hb dX9_takeWord_83 ?_
  refine lv_topi (fun x_124 ex_124 => ?_)
  obtain rfl : x_124 = 5 := ex_124.trans (by decide)
  refine lv_iload_n hx hb dX9_takeWord_84 rfl (lv_at hl 3 rfl) ?_
  refine lv_aload_n hx hb dX9_takeWord_85 rfl (lv_at hl 4 rfl) ?_
  refine va_get (D := (dC, dI)) (ci := 9) (v := .int 0) (C := RX9) (T := TX9) (N := 4) hx hb hts iX9 hown hK hP 0 rfl rfl 2 (by decide) (hts _ tw_41) (fun _ h9 => h9) rfl dX9_takeWord_86 ?_
  refine lv_isub hx hb dX9_takeWord_89 ?_
  refine lv_topi (fun x_125 ex_125 => ?_)
  obtain rfl : x_125 = 0 := ex_125.trans (by decide)
  refine lv_icmp_ne (tgt := 112) hx hb dX9_takeWord_90 (by decide) (fun c_126 => ?_) (fun c_126 => absurd c_126 (by decide))
  refine lv_iinc (v := 4) (lv' := [(3, .int 4), (5, .int 21), (4, .int 16), (2, .int 0), (0, .ref tp), (1, .ref (aK 0))]) hx hb dX9_takeWord_112 hl (k := 2) rfl (by decide) (by decide) rfl (fun ls hl => ?_)
  refine lv_iload hx hb dX9_takeWord_115 (lv_at hl 1 rfl) ?_
  refine lv_iconst (v := 1) hx hb dX9_takeWord_117 (by decide) ?_
  refine lv_iadd hx hb dX9_takeWord_118 ?_
  refine lv_topi (fun x_127 ex_127 => ?_)
  obtain rfl : x_127 = 22 := ex_127.trans (by decide)
  refine lv_istore (lv' := [(4, .int 22), (3, .int 4), (5, .int 21), (2, .int 0), (0, .ref tp), (1, .ref (aK 0))]) hx hb dX9_takeWord_119 hl (by decide) rfl (fun ls hl => ?_)
  refine lv_iinc (v := 22) (lv' := [(5, .int 22), (4, .int 22), (3, .int 4), (2, .int 0), (0, .ref tp), (1, .ref (aK 0))]) hx hb dX9_takeWord_121 hl (k := 2) rfl (by decide) (by decide) rfl (fun ls hl => ?_)
  refine lv_goto (tgt := 49) hx hb dX9_takeWord_124 (by decide) ?_
  refine lv_iload hx hb dX9_takeWord_49 (lv_at hl 0 rfl) ?_
  refine lv_aload_n hx hb dX9_takeWord_51 rfl (lv_at hl 5 rfl) ?_
  have hPc := hP.sub (ws' := []) [] rfl
  have hDc := hD.sub (ws' := []) [] (by decide) rfl
  have hKc := hK.sub (tys' := []) [] rfl
  have hFc := va_free (wc := []) hD hS hA [] rfl
  refine va_calli (va_runV (As := []) (rest := [.int 22]) ⟨hx, hb, hml, hown, hts⟩ (s_length l dC dI aK aV 0 (by decide) H.size) (cwV 0 hts (gUV tw_509 tw_510 tw_511 tw_15 tw_512) rfl rfl rfl (by decide +kernel) ⟨(Nat.le_of_ble_eq_true rfl), (Nat.le_of_ble_eq_true rfl)⟩) ⟨cPreS.blind, vk_recv hStr.1 (i := 0) (by decide) hS, cPreS.use hPc hKc hDc hE hStr hR hS hFc⟩ rfl rfl hl.1 rfl (lv_room (Nat.le_of_ble_eq_true rfl)) dX9_takeWord_52 ⟨(Nat.le_of_ble_eq_true rfl), (Nat.le_of_ble_eq_true rfl)⟩) hS (fun q _ h => hFc q h) hFc (fun r_128 u t H1 locs ht hvm hw hB hz1 hk1 hS => ?_)
  obtain ⟨hP, hD⟩ := va_join (wr := [(tp, .inr (9, [.ref tb, .int 0, .int 0, .int 0]))]) (w1 := []) hP hD [] [0] rfl rfl (by decide) (by decide) hk1 hFc (va_P_nil _ _ _) (va_D_nil _)
  generalize H1 = H at hP hS ⊢
  have hP : va_P (dC, dI) vwCl [(tp, .inr (9, [.ref tb, .int 0, .int 0, .int 0]))] H := hP
  have hD : va_D A [(tp, .inr (9, [.ref tb, .int 0, .int 0, .int 0]))] := hD
  obtain rfl : r_128 = 36 := hw.trans (by decide)
  refine lv_icmp_ge (tgt := 127) hx hb dX9_takeWord_55 (by decide) (fun c_129 => absurd c_129 (by decide)) (fun c_129 => ?_)
  refine lv_aload_n hx hb dX9_takeWord_58 rfl (lv_at hl 4 rfl) ?_
  refine va_get (D := (dC, dI)) (ci := 9) (v := .int 0) (C := RX9) (T := TX9) (N := 4) hx hb hts iX9 hown hK hP 0 rfl rfl 3 (by decide) (hts _ tw_44) (fun _ h9 => h9) rfl dX9_takeWord_59 ?_
  refine lv_if_ne (tgt := 127) hx hb dX9_takeWord_62 (by decide) (fun c_130 => absurd (by decide) c_130) (fun c_130 => ?_)
  refine lv_aload_n hx hb dX9_takeWord_65 rfl (lv_at hl 5 rfl) ?_
  refine lv_iload hx hb dX9_takeWord_66 (lv_at hl 0 rfl) ?_
  have hPc := hP.sub (ws' := []) [] rfl
  have hDc := hD.sub (ws' := []) [] (by decide) rfl
  have hKc := hK.sub (tys' := []) [] rfl
  have hFc := va_free (wc := []) hD hS hA [] rfl
  refine va_calli (va_runV (As := [.int 22]) (rest := []) ⟨hx, hb, hml, hown, hts⟩ (s_charAt l dC dI aK aV 0 22 (by decide) (by decide) H.size) (cwV 1 hts (gUV tw_519 tw_520 tw_521 tw_15 tw_522) rfl rfl rfl (by decide +kernel) ⟨(Nat.le_of_ble_eq_true rfl), (Nat.le_of_ble_eq_true rfl)⟩) ⟨cPreS.blind, vk_recv hStr.1 (i := 0) (by decide) hS, cPreS.use hPc hKc hDc hE hStr hR hS hFc⟩ rfl rfl hl.1 rfl (lv_room (Nat.le_of_ble_eq_true rfl)) dX9_takeWord_68 ⟨(Nat.le_of_ble_eq_true rfl), (Nat.le_of_ble_eq_true rfl)⟩) hS (fun q _ h => hFc q h) hFc (fun r_131 u t H1 locs ht hvm hw hB hz1 hk1 hS => ?_)
  obtain ⟨hP, hD⟩ := va_join (wr := [(tp, .inr (9, [.ref tb, .int 0, .int 0, .int 0]))]) (w1 := []) hP hD [] [0] rfl rfl (by decide) (by decide) hk1 hFc (va_P_nil _ _ _) (va_D_nil _)
  generalize H1 = H at hP hS ⊢
  have hP : va_P (dC, dI) vwCl [(tp, .inr (9, [.ref tb, .int 0, .int 0, .int 0]))] H := hP
  have hD : va_D A [(tp, .inr (9, [.ref tb, .int 0, .int 0, .int 0]))] := hD
  obtain rfl : r_131 = 102 := hw.trans (by decide)
  refine lv_bipush (v := 32) hx hb dX9_takeWord_71 (by decide) ?_
  refine lv_icmp_eq (tgt := 79) hx hb dX9_takeWord_73 (by decide) (fun c_132 => absurd c_132 (by decide)) (fun c_132 => ?_)
  refine lv_goto (tgt := 121) hx hb dX9_takeWord_76 (by decide) ?_
  refine lv_iinc (v := 23) (lv' := [(5, .int 23), (4, .int 22), (3, .int 4), (2, .int 0), (0, .ref tp), (1, .ref (aK 0))]) hx hb dX9_takeWord_121 hl (k := 0) rfl (by decide) (by decide) rfl (fun ls hl => ?_)
  refine lv_goto (tgt := 49) hx hb dX9_takeWord_124 (by decide) ?_
  refine lv_iload hx hb dX9_takeWord_49 (lv_at hl 0 rfl) ?_
  refine lv_aload_n hx hb dX9_takeWord_51 rfl (lv_at hl 5 rfl) ?_
  have hPc := hP.sub (ws' := []) [] rfl
  have hDc := hD.sub (ws' := []) [] (by decide) rfl
  have hKc := hK.sub (tys' := []) [] rfl
  have hFc := va_free (wc := []) hD hS hA [] rfl
  refine va_calli (va_runV (As := []) (rest := [.int 23]) ⟨hx, hb, hml, hown, hts⟩ (s_length l dC dI aK aV 0 (by decide) H.size) (cwV 0 hts (gUV tw_509 tw_510 tw_511 tw_15 tw_512) rfl rfl rfl (by decide +kernel) ⟨(Nat.le_of_ble_eq_true rfl), (Nat.le_of_ble_eq_true rfl)⟩) ⟨cPreS.blind, vk_recv hStr.1 (i := 0) (by decide) hS, cPreS.use hPc hKc hDc hE hStr hR hS hFc⟩ rfl rfl hl.1 rfl (lv_room (Nat.le_of_ble_eq_true rfl)) dX9_takeWord_52 ⟨(Nat.le_of_ble_eq_true rfl), (Nat.le_of_ble_eq_true rfl)⟩) hS (fun q _ h => hFc q h) hFc (fun r_133 u t H1 locs ht hvm hw hB hz1 hk1 hS => ?_)
  obtain ⟨hP, hD⟩ := va_join (wr := [(tp, .inr (9, [.ref tb, .int 0, .int 0, .int 0]))]) (w1 := []) hP hD [] [0] rfl rfl (by decide) (by decide) hk1 hFc (va_P_nil _ _ _) (va_D_nil _)
  generalize H1 = H at hP hS ⊢
  have hP : va_P (dC, dI) vwCl [(tp, .inr (9, [.ref tb, .int 0, .int 0, .int 0]))] H := hP
  have hD : va_D A [(tp, .inr (9, [.ref tb, .int 0, .int 0, .int 0]))] := hD
  obtain rfl : r_133 = 36 := hw.trans (by decide)
  refine lv_icmp_ge (tgt := 127) hx hb dX9_takeWord_55 (by decide) (fun c_134 => absurd c_134 (by decide)) (fun c_134 => ?_)
  refine lv_aload_n hx hb dX9_takeWord_58 rfl (lv_at hl 4 rfl) ?_
  refine va_get (D := (dC, dI)) (ci := 9) (v := .int 0) (C := RX9) (T := TX9) (N := 4) hx hb hts iX9 hown hK hP 0 rfl rfl 3 (by decide) (hts _ tw_44) (fun _ h9 => h9) rfl dX9_takeWord_59 ?_
  refine lv_if_ne (tgt := 127) hx hb dX9_takeWord_62 (by decide) (fun c_135 => absurd (by decide) c_135) (fun c_135 => ?_)
  refine lv_aload_n hx hb dX9_takeWord_65 rfl (lv_at hl 5 rfl) ?_
  refine lv_iload hx hb dX9_takeWord_66 (lv_at hl 0 rfl) ?_
  have hPc := hP.sub (ws' := []) [] rfl
  have hDc := hD.sub (ws' := []) [] (by decide) rfl
  have hKc := hK.sub (tys' := []) [] rfl
  have hFc := va_free (wc := []) hD hS hA [] rfl
  refine va_calli (va_runV (As := [.int 23]) (rest := []) ⟨hx, hb, hml, hown, hts⟩ (s_charAt l dC dI aK aV 0 23 (by decide) (by decide) H.size) (cwV 1 hts (gUV tw_519 tw_520 tw_521 tw_15 tw_522) rfl rfl rfl (by decide +kernel) ⟨(Nat.le_of_ble_eq_true rfl), (Nat.le_of_ble_eq_true rfl)⟩) ⟨cPreS.blind, vk_recv hStr.1 (i := 0) (by decide) hS, cPreS.use hPc hKc hDc hE hStr hR hS hFc⟩ rfl rfl hl.1 rfl (lv_room (Nat.le_of_ble_eq_true rfl)) dX9_takeWord_68 ⟨(Nat.le_of_ble_eq_true rfl), (Nat.le_of_ble_eq_true rfl)⟩) hS (fun q _ h => hFc q h) hFc (fun r_136 u t H1 locs ht hvm hw hB hz1 hk1 hS => ?_)
  obtain ⟨hP, hD⟩ := va_join (wr := [(tp, .inr (9, [.ref tb, .int 0, .int 0, .int 0]))]) (w1 := []) hP hD [] [0] rfl rfl (by decide) (by decide) hk1 hFc (va_P_nil _ _ _) (va_D_nil _)
  generalize H1 = H at hP hS ⊢
  have hP : va_P (dC, dI) vwCl [(tp, .inr (9, [.ref tb, .int 0, .int 0, .int 0]))] H := hP
  have hD : va_D A [(tp, .inr (9, [.ref tb, .int 0, .int 0, .int 0]))] := hD
  obtain rfl : r_136 = 97 := hw.trans (by decide)
  refine lv_bipush (v := 32) hx hb dX9_takeWord_71 (by decide) ?_
  refine lv_icmp_eq (tgt := 79) hx hb dX9_takeWord_73 (by decide) (fun c_137 => absurd c_137 (by decide)) (fun c_137 => ?_)
  refine lv_goto (tgt := 121) hx hb dX9_takeWord_76 (by decide) ?_
  refine lv_iinc (v := 24) (lv' := [(5, .int 24), (4, .int 22), (3, .int 4), (2, .int 0), (0, .ref tp), (1, .ref (aK 0))]) hx hb dX9_takeWord_121 hl (k := 0) rfl (by decide) (by decide) rfl (fun ls hl => ?_)
  refine lv_goto (tgt := 49) hx hb dX9_takeWord_124 (by decide) ?_
  refine lv_iload hx hb dX9_takeWord_49 (lv_at hl 0 rfl) ?_
  refine lv_aload_n hx hb dX9_takeWord_51 rfl (lv_at hl 5 rfl) ?_
  have hPc := hP.sub (ws' := []) [] rfl
  have hDc := hD.sub (ws' := []) [] (by decide) rfl
  have hKc := hK.sub (tys' := []) [] rfl
  have hFc := va_free (wc := []) hD hS hA [] rfl
  refine va_calli (va_runV (As := []) (rest := [.int 24]) ⟨hx, hb, hml, hown, hts⟩ (s_length l dC dI aK aV 0 (by decide) H.size) (cwV 0 hts (gUV tw_509 tw_510 tw_511 tw_15 tw_512) rfl rfl rfl (by decide +kernel) ⟨(Nat.le_of_ble_eq_true rfl), (Nat.le_of_ble_eq_true rfl)⟩) ⟨cPreS.blind, vk_recv hStr.1 (i := 0) (by decide) hS, cPreS.use hPc hKc hDc hE hStr hR hS hFc⟩ rfl rfl hl.1 rfl (lv_room (Nat.le_of_ble_eq_true rfl)) dX9_takeWord_52 ⟨(Nat.le_of_ble_eq_true rfl), (Nat.le_of_ble_eq_true rfl)⟩) hS (fun q _ h => hFc q h) hFc (fun r_138 u t H1 locs ht hvm hw hB hz1 hk1 hS => ?_)
  obtain ⟨hP, hD⟩ := va_join (wr := [(tp, .inr (9, [.ref tb, .int 0, .int 0, .int 0]))]) (w1 := []) hP hD [] [0] rfl rfl (by decide) (by decide) hk1 hFc (va_P_nil _ _ _) (va_D_nil _)
  generalize H1 = H at hP hS ⊢
  have hP : va_P (dC, dI) vwCl [(tp, .inr (9, [.ref tb, .int 0, .int 0, .int 0]))] H := hP
  have hD : va_D A [(tp, .inr (9, [.ref tb, .int 0, .int 0, .int 0]))] := hD
  obtain rfl : r_138 = 36 := hw.trans (by decide)
  refine lv_icmp_ge (tgt := 127) hx hb dX9_takeWord_55 (by decide) (fun c_139 => absurd c_139 (by decide)) (fun c_139 => ?_)
  refine lv_aload_n hx hb dX9_takeWord_58 rfl (lv_at hl 4 rfl) ?_
  refine va_get (D := (dC, dI)) (ci := 9) (v := .int 0) (C := RX9) (T := TX9) (N := 4) hx hb hts iX9 hown hK hP 0 rfl rfl 3 (by decide) (hts _ tw_44) (fun _ h9 => h9) rfl dX9_takeWord_59 ?_
  refine lv_if_ne (tgt := 127) hx hb dX9_takeWord_62 (by decide) (fun c_140 => absurd (by decide) c_140) (fun c_140 => ?_)
  refine lv_aload_n hx hb dX9_takeWord_65 rfl (lv_at hl 5 rfl) ?_
  refine lv_iload hx hb dX9_takeWord_66 (lv_at hl 0 rfl) ?_
  have hPc := hP.sub (ws' := []) [] rfl
  have hDc := hD.sub (ws' := []) [] (by decide) rfl
  have hKc := hK.sub (tys' := []) [] rfl
  have hFc := va_free (wc := []) hD hS hA [] rfl
  refine va_calli (va_runV (As := [.int 24]) (rest := []) ⟨hx, hb, hml, hown, hts⟩ (s_charAt l dC dI aK aV 0 24 (by decide) (by decide) H.size) (cwV 1 hts (gUV tw_519 tw_520 tw_521 tw_15 tw_522) rfl rfl rfl (by decide +kernel) ⟨(Nat.le_of_ble_eq_true rfl), (Nat.le_of_ble_eq_true rfl)⟩) ⟨cPreS.blind, vk_recv hStr.1 (i := 0) (by decide) hS, cPreS.use hPc hKc hDc hE hStr hR hS hFc⟩ rfl rfl hl.1 rfl (lv_room (Nat.le_of_ble_eq_true rfl)) dX9_takeWord_68 ⟨(Nat.le_of_ble_eq_true rfl), (Nat.le_of_ble_eq_true rfl)⟩) hS (fun q _ h => hFc q h) hFc (fun r_141 u t H1 locs ht hvm hw hB hz1 hk1 hS => ?_)
  obtain ⟨hP, hD⟩ := va_join (wr := [(tp, .inr (9, [.ref tb, .int 0, .int 0, .int 0]))]) (w1 := []) hP hD [] [0] rfl rfl (by decide) (by decide) hk1 hFc (va_P_nil _ _ _) (va_D_nil _)
  generalize H1 = H at hP hS ⊢
  have hP : va_P (dC, dI) vwCl [(tp, .inr (9, [.ref tb, .int 0, .int 0, .int 0]))] H := hP
  have hD : va_D A [(tp, .inr (9, [.ref tb, .int 0, .int 0, .int 0]))] := hD
  obtain rfl : r_141 = 114 := hw.trans (by decide)
  refine lv_bipush (v := 32) hx hb dX9_takeWord_71 (by decide) ?_
  refine lv_icmp_eq (tgt := 79) hx hb dX9_takeWord_73 (by decide) (fun c_142 => absurd c_142 (by decide)) (fun c_142 => ?_)
  refine lv_goto (tgt := 121) hx hb dX9_takeWord_76 (by decide) ?_
  refine lv_iinc (v := 25) (lv' := [(5, .int 25), (4, .int 22), (3, .int 4), (2, .int 0), (0, .ref tp), (1, .ref (aK 0))]) hx hb dX9_takeWord_121 hl (k := 0) rfl (by decide) (by decide) rfl (fun ls hl => ?_)
  refine lv_goto (tgt := 49) hx hb dX9_takeWord_124 (by decide) ?_
  refine lv_iload hx hb dX9_takeWord_49 (lv_at hl 0 rfl) ?_
  refine lv_aload_n hx hb dX9_takeWord_51 rfl (lv_at hl 5 rfl) ?_
  have hPc := hP.sub (ws' := []) [] rfl
  have hDc := hD.sub (ws' := []) [] (by decide) rfl
  have hKc := hK.sub (tys' := []) [] rfl
  have hFc := va_free (wc := []) hD hS hA [] rfl
  refine va_calli (va_runV (As := []) (rest := [.int 25]) ⟨hx, hb, hml, hown, hts⟩ (s_length l dC dI aK aV 0 (by decide) H.size) (cwV 0 hts (gUV tw_509 tw_510 tw_511 tw_15 tw_512) rfl rfl rfl (by decide +kernel) ⟨(Nat.le_of_ble_eq_true rfl), (Nat.le_of_ble_eq_true rfl)⟩) ⟨cPreS.blind, vk_recv hStr.1 (i := 0) (by decide) hS, cPreS.use hPc hKc hDc hE hStr hR hS hFc⟩ rfl rfl hl.1 rfl (lv_room (Nat.le_of_ble_eq_true rfl)) dX9_takeWord_52 ⟨(Nat.le_of_ble_eq_true rfl), (Nat.le_of_ble_eq_true rfl)⟩) hS (fun q _ h => hFc q h) hFc (fun r_143 u t H1 locs ht hvm hw hB hz1 hk1 hS => ?_)
  obtain ⟨hP, hD⟩ := va_join (wr := [(tp, .inr (9, [.ref tb, .int 0, .int 0, .int 0]))]) (w1 := []) hP hD [] [0] rfl rfl (by decide) (by decide) hk1 hFc (va_P_nil _ _ _) (va_D_nil _)
  generalize H1 = H at hP hS ⊢
  have hP : va_P (dC, dI) vwCl [(tp, .inr (9, [.ref tb, .int 0, .int 0, .int 0]))] H := hP
  have hD : va_D A [(tp, .inr (9, [.ref tb, .int 0, .int 0, .int 0]))] := hD
  obtain rfl : r_143 = 36 := hw.trans (by decide)
  refine lv_icmp_ge (tgt := 127) hx hb dX9_takeWord_55 (by decide) (fun c_144 => absurd c_144 (by decide)) (fun c_144 => ?_)
  refine lv_aload_n hx hb dX9_takeWord_58 rfl (lv_at hl 4 rfl) ?_
  refine va_get (D := (dC, dI)) (ci := 9) (v := .int 0) (C := RX9) (T := TX9) (N := 4) hx hb hts iX9 hown hK hP 0 rfl rfl 3 (by decide) (hts _ tw_44) (fun _ h9 => h9) rfl dX9_takeWord_59 ?_
  refine lv_if_ne (tgt := 127) hx hb dX9_takeWord_62 (by decide) (fun c_145 => absurd (by decide) c_145) (fun c_145 => ?_)
  refine lv_aload_n hx hb dX9_takeWord_65 rfl (lv_at hl 5 rfl) ?_
  refine lv_iload hx hb dX9_takeWord_66 (lv_at hl 0 rfl) ?_
  have hPc := hP.sub (ws' := []) [] rfl
  have hDc := hD.sub (ws' := []) [] (by decide) rfl
  have hKc := hK.sub (tys' := []) [] rfl
  have hFc := va_free (wc := []) hD hS hA [] rfl
  refine va_calli (va_runV (As := [.int 25]) (rest := []) ⟨hx, hb, hml, hown, hts⟩ (s_charAt l dC dI aK aV 0 25 (by decide) (by decide) H.size) (cwV 1 hts (gUV tw_519 tw_520 tw_521 tw_15 tw_522) rfl rfl rfl (by decide +kernel) ⟨(Nat.le_of_ble_eq_true rfl), (Nat.le_of_ble_eq_true rfl)⟩) ⟨cPreS.blind, vk_recv hStr.1 (i := 0) (by decide) hS, cPreS.use hPc hKc hDc hE hStr hR hS hFc⟩ rfl rfl hl.1 rfl (lv_room (Nat.le_of_ble_eq_true rfl)) dX9_takeWord_68 ⟨(Nat.le_of_ble_eq_true rfl), (Nat.le_of_ble_eq_true rfl)⟩) hS (fun q _ h => hFc q h) hFc (fun r_146 u t H1 locs ht hvm hw hB hz1 hk1 hS => ?_)
  obtain ⟨hP, hD⟩ := va_join (wr := [(tp, .inr (9, [.ref tb, .int 0, .int 0, .int 0]))]) (w1 := []) hP hD [] [0] rfl rfl (by decide) (by decide) hk1 hFc (va_P_nil _ _ _) (va_D_nil _)
  generalize H1 = H at hP hS ⊢
  have hP : va_P (dC, dI) vwCl [(tp, .inr (9, [.ref tb, .int 0, .int 0, .int 0]))] H := hP
  have hD : va_D A [(tp, .inr (9, [.ref tb, .int 0, .int 0, .int 0]))] := hD
  obtain rfl : r_146 = 109 := hw.trans (by decide)
  refine lv_bipush (v := 32) hx hb dX9_takeWord_71 (by decide) ?_
  refine lv_icmp_eq (tgt := 79) hx hb dX9_takeWord_73 (by decide) (fun c_147 => absurd c_147 (by decide)) (fun c_147 => ?_)
  refine lv_goto (tgt := 121) hx hb dX9_takeWord_76 (by decide) ?_
  refine lv_iinc (v := 26) (lv' := [(5, .int 26), (4, .int 22), (3, .int 4), (2, .int 0), (0, .ref tp), (1, .ref (aK 0))]) hx hb dX9_takeWord_121 hl (k := 0) rfl (by decide) (by decide) rfl (fun ls hl => ?_)
  refine lv_goto (tgt := 49) hx hb dX9_takeWord_124 (by decide) ?_
  refine lv_iload hx hb dX9_takeWord_49 (lv_at hl 0 rfl) ?_
  refine lv_aload_n hx hb dX9_takeWord_51 rfl (lv_at hl 5 rfl) ?_
  have hPc := hP.sub (ws' := []) [] rfl
  have hDc := hD.sub (ws' := []) [] (by decide) rfl
  have hKc := hK.sub (tys' := []) [] rfl
  have hFc := va_free (wc := []) hD hS hA [] rfl
  refine va_calli (va_runV (As := []) (rest := [.int 26]) ⟨hx, hb, hml, hown, hts⟩ (s_length l dC dI aK aV 0 (by decide) H.size) (cwV 0 hts (gUV tw_509 tw_510 tw_511 tw_15 tw_512) rfl rfl rfl (by decide +kernel) ⟨(Nat.le_of_ble_eq_true rfl), (Nat.le_of_ble_eq_true rfl)⟩) ⟨cPreS.blind, vk_recv hStr.1 (i := 0) (by decide) hS, cPreS.use hPc hKc hDc hE hStr hR hS hFc⟩ rfl rfl hl.1 rfl (lv_room (Nat.le_of_ble_eq_true rfl)) dX9_takeWord_52 ⟨(Nat.le_of_ble_eq_true rfl), (Nat.le_of_ble_eq_true rfl)⟩) hS (fun q _ h => hFc q h) hFc (fun r_148 u t H1 locs ht hvm hw hB hz1 hk1 hS => ?_)
  obtain ⟨hP, hD⟩ := va_join (wr := [(tp, .inr (9, [.ref tb, .int 0, .int 0, .int 0]))]) (w1 := []) hP hD [] [0] rfl rfl (by decide) (by decide) hk1 hFc (va_P_nil _ _ _) (va_D_nil _)
  generalize H1 = H at hP hS ⊢
  have hP : va_P (dC, dI) vwCl [(tp, .inr (9, [.ref tb, .int 0, .int 0, .int 0]))] H := hP
  have hD : va_D A [(tp, .inr (9, [.ref tb, .int 0, .int 0, .int 0]))] := hD
  obtain rfl : r_148 = 36 := hw.trans (by decide)
  refine lv_icmp_ge (tgt := 127) hx hb dX9_takeWord_55 (by decide) (fun c_149 => absurd c_149 (by decide)) (fun c_149 => ?_)
  refine lv_aload_n hx hb dX9_takeWord_58 rfl (lv_at hl 4 rfl) ?_
  refine va_get (D := (dC, dI)) (ci := 9) (v := .int 0) (C := RX9) (T := TX9) (N := 4) hx hb hts iX9 hown hK hP 0 rfl rfl 3 (by decide) (hts _ tw_44) (fun _ h9 => h9) rfl dX9_takeWord_59 ?_
  refine lv_if_ne (tgt := 127) hx hb dX9_takeWord_62 (by decide) (fun c_150 => absurd (by decide) c_150) (fun c_150 => ?_)
  refine lv_aload_n hx hb dX9_takeWord_65 rfl (lv_at hl 5 rfl) ?_
  refine lv_iload hx hb dX9_takeWord_66 (lv_at hl 0 rfl) ?_
  have hPc := hP.sub (ws' := []) [] rfl
  have hDc := hD.sub (ws' := []) [] (by decide) rfl
  have hKc := hK.sub (tys' := []) [] rfl
  have hFc := va_free (wc := []) hD hS hA [] rfl
  refine va_calli (va_runV (As := [.int 26]) (rest := []) ⟨hx, hb, hml, hown, hts⟩ (s_charAt l dC dI aK aV 0 26 (by decide) (by decide) H.size) (cwV 1 hts (gUV tw_519 tw_520 tw_521 tw_15 tw_522) rfl rfl rfl (by decide +kernel) ⟨(Nat.le_of_ble_eq_true rfl), (Nat.le_of_ble_eq_true rfl)⟩) ⟨cPreS.blind, vk_recv hStr.1 (i := 0) (by decide) hS, cPreS.use hPc hKc hDc hE hStr hR hS hFc⟩ rfl rfl hl.1 rfl (lv_room (Nat.le_of_ble_eq_true rfl)) dX9_takeWord_68 ⟨(Nat.le_of_ble_eq_true rfl), (Nat.le_of_ble_eq_true rfl)⟩) hS (fun q _ h => hFc q h) hFc (fun r_151 u t H1 locs ht hvm hw hB hz1 hk1 hS => ?_)
  obtain ⟨hP, hD⟩ := va_join (wr := [(tp, .inr (9, [.ref tb, .int 0, .int 0, .int 0]))]) (w1 := []) hP hD [] [0] rfl rfl (by decide) (by decide) hk1 hFc (va_P_nil _ _ _) (va_D_nil _)
  generalize H1 = H at hP hS ⊢
  have hP : va_P (dC, dI) vwCl [(tp, .inr (9, [.ref tb, .int 0, .int 0, .int 0]))] H := hP
  have hD : va_D A [(tp, .inr (9, [.ref tb, .int 0, .int 0, .int 0]))] := hD
  obtain rfl : r_151 = 32 := hw.trans (by decide)
  refine lv_bipush (v := 32) hx hb dX9_takeWord_71 (by decide) ?_
  refine lv_icmp_eq (tgt := 79) hx hb dX9_takeWord_73 (by decide) (fun c_152 => ?_) (fun c_152 => absurd (by decide) c_152)
  refine lv_iload hx hb dX9_takeWord_79 (lv_at hl 0 rfl) ?_
  refine lv_iload hx hb dX9_takeWord_81 (lv_at hl 1 rfl) ?_
  refine lv_isub hx hb dX9_takeWord_83 ?_
  refine lv_topi (fun x_153 ex_153 => ?_)
  obtain rfl : x_153 = 4 := ex_153.trans (by decide)
  refine lv_iload_n hx hb dX9_takeWord_84 rfl (lv_at hl 3 rfl) ?_
  refine lv_aload_n hx hb dX9_takeWord_85 rfl (lv_at hl 4 rfl) ?_
  refine va_get (D := (dC, dI)) (ci := 9) (v := .int 0) (C := RX9) (T := TX9) (N := 4) hx hb hts iX9 hown hK hP 0 rfl rfl 2 (by decide) (hts _ tw_41) (fun _ h9 => h9) rfl dX9_takeWord_86 ?_
  refine lv_isub hx hb dX9_takeWord_89 ?_
  refine lv_topi (fun x_154 ex_154 => ?_)
  obtain rfl : x_154 = 0 := ex_154.trans (by decide)
  refine lv_icmp_ne (tgt := 112) hx hb dX9_takeWord_90 (by decide) (fun c_155 => ?_) (fun c_155 => absurd c_155 (by decide))
  refine lv_iinc (v := 5) (lv' := [(3, .int 5), (5, .int 26), (4, .int 22), (2, .int 0), (0, .ref tp), (1, .ref (aK 0))]) hx hb dX9_takeWord_112 hl (k := 2) rfl (by decide) (by decide) rfl (fun ls hl => ?_)
  refine lv_iload hx hb dX9_takeWord_115 (lv_at hl 1 rfl) ?_
  refine lv_iconst (v := 1) hx hb dX9_takeWord_117 (by decide) ?_
  refine lv_iadd hx hb dX9_takeWord_118 ?_
  refine lv_topi (fun x_156 ex_156 => ?_)
  obtain rfl : x_156 = 27 := ex_156.trans (by decide)
  refine lv_istore (lv' := [(4, .int 27), (3, .int 5), (5, .int 26), (2, .int 0), (0, .ref tp), (1, .ref (aK 0))]) hx hb dX9_takeWord_119 hl (by decide) rfl (fun ls hl => ?_)
  refine lv_iinc (v := 27) (lv' := [(5, .int 27), (4, .int 27), (3, .int 5), (2, .int 0), (0, .ref tp), (1, .ref (aK 0))]) hx hb dX9_takeWord_121 hl (k := 2) rfl (by decide) (by decide) rfl (fun ls hl => ?_)
  refine lv_goto (tgt := 49) hx hb dX9_takeWord_124 (by decide) ?_
  refine lv_iload hx hb dX9_takeWord_49 (lv_at hl 0 rfl) ?_
  refine lv_aload_n hx hb dX9_takeWord_51 rfl (lv_at hl 5 rfl) ?_
  have hPc := hP.sub (ws' := []) [] rfl
  have hDc := hD.sub (ws' := []) [] (by decide) rfl
  have hKc := hK.sub (tys' := []) [] rfl
  have hFc := va_free (wc := []) hD hS hA [] rfl
  refine va_calli (va_runV (As := []) (rest := [.int 27]) ⟨hx, hb, hml, hown, hts⟩ (s_length l dC dI aK aV 0 (by decide) H.size) (cwV 0 hts (gUV tw_509 tw_510 tw_511 tw_15 tw_512) rfl rfl rfl (by decide +kernel) ⟨(Nat.le_of_ble_eq_true rfl), (Nat.le_of_ble_eq_true rfl)⟩) ⟨cPreS.blind, vk_recv hStr.1 (i := 0) (by decide) hS, cPreS.use hPc hKc hDc hE hStr hR hS hFc⟩ rfl rfl hl.1 rfl (lv_room (Nat.le_of_ble_eq_true rfl)) dX9_takeWord_52 ⟨(Nat.le_of_ble_eq_true rfl), (Nat.le_of_ble_eq_true rfl)⟩) hS (fun q _ h => hFc q h) hFc (fun r_157 u t H1 locs ht hvm hw hB hz1 hk1 hS => ?_)
  obtain ⟨hP, hD⟩ := va_join (wr := [(tp, .inr (9, [.ref tb, .int 0, .int 0, .int 0]))]) (w1 := []) hP hD [] [0] rfl rfl (by decide) (by decide) hk1 hFc (va_P_nil _ _ _) (va_D_nil _)
  generalize H1 = H at hP hS ⊢
  have hP : va_P (dC, dI) vwCl [(tp, .inr (9, [.ref tb, .int 0, .int 0, .int 0]))] H := hP
  have hD : va_D A [(tp, .inr (9, [.ref tb, .int 0, .int 0, .int 0]))] := hD
  obtain rfl : r_157 = 36 := hw.trans (by decide)
  refine lv_icmp_ge (tgt := 127) hx hb dX9_takeWord_55 (by decide) (fun c_158 => absurd c_158 (by decide)) (fun c_158 => ?_)
  refine lv_aload_n hx hb dX9_takeWord_58 rfl (lv_at hl 4 rfl) ?_
  refine va_get (D := (dC, dI)) (ci := 9) (v := .int 0) (C := RX9) (T := TX9) (N := 4) hx hb hts iX9 hown hK hP 0 rfl rfl 3 (by decide) (hts _ tw_44) (fun _ h9 => h9) rfl dX9_takeWord_59 ?_
  refine lv_if_ne (tgt := 127) hx hb dX9_takeWord_62 (by decide) (fun c_159 => absurd (by decide) c_159) (fun c_159 => ?_)
  refine lv_aload_n hx hb dX9_takeWord_65 rfl (lv_at hl 5 rfl) ?_
  refine lv_iload hx hb dX9_takeWord_66 (lv_at hl 0 rfl) ?_
  have hPc := hP.sub (ws' := []) [] rfl
  have hDc := hD.sub (ws' := []) [] (by decide) rfl
  have hKc := hK.sub (tys' := []) [] rfl
  have hFc := va_free (wc := []) hD hS hA [] rfl
  refine va_calli (va_runV (As := [.int 27]) (rest := []) ⟨hx, hb, hml, hown, hts⟩ (s_charAt l dC dI aK aV 0 27 (by decide) (by decide) H.size) (cwV 1 hts (gUV tw_519 tw_520 tw_521 tw_15 tw_522) rfl rfl rfl (by decide +kernel) ⟨(Nat.le_of_ble_eq_true rfl), (Nat.le_of_ble_eq_true rfl)⟩) ⟨cPreS.blind, vk_recv hStr.1 (i := 0) (by decide) hS, cPreS.use hPc hKc hDc hE hStr hR hS hFc⟩ rfl rfl hl.1 rfl (lv_room (Nat.le_of_ble_eq_true rfl)) dX9_takeWord_68 ⟨(Nat.le_of_ble_eq_true rfl), (Nat.le_of_ble_eq_true rfl)⟩) hS (fun q _ h => hFc q h) hFc (fun r_160 u t H1 locs ht hvm hw hB hz1 hk1 hS => ?_)
  obtain ⟨hP, hD⟩ := va_join (wr := [(tp, .inr (9, [.ref tb, .int 0, .int 0, .int 0]))]) (w1 := []) hP hD [] [0] rfl rfl (by decide) (by decide) hk1 hFc (va_P_nil _ _ _) (va_D_nil _)
  generalize H1 = H at hP hS ⊢
  have hP : va_P (dC, dI) vwCl [(tp, .inr (9, [.ref tb, .int 0, .int 0, .int 0]))] H := hP
  have hD : va_D A [(tp, .inr (9, [.ref tb, .int 0, .int 0, .int 0]))] := hD
  obtain rfl : r_160 = 119 := hw.trans (by decide)
  refine lv_bipush (v := 32) hx hb dX9_takeWord_71 (by decide) ?_
  refine lv_icmp_eq (tgt := 79) hx hb dX9_takeWord_73 (by decide) (fun c_161 => absurd c_161 (by decide)) (fun c_161 => ?_)
  refine lv_goto (tgt := 121) hx hb dX9_takeWord_76 (by decide) ?_
  refine lv_iinc (v := 28) (lv' := [(5, .int 28), (4, .int 27), (3, .int 5), (2, .int 0), (0, .ref tp), (1, .ref (aK 0))]) hx hb dX9_takeWord_121 hl (k := 0) rfl (by decide) (by decide) rfl (fun ls hl => ?_)
  refine lv_goto (tgt := 49) hx hb dX9_takeWord_124 (by decide) ?_
  refine lv_iload hx hb dX9_takeWord_49 (lv_at hl 0 rfl) ?_
  refine lv_aload_n hx hb dX9_takeWord_51 rfl (lv_at hl 5 rfl) ?_
  have hPc := hP.sub (ws' := []) [] rfl
  have hDc := hD.sub (ws' := []) [] (by decide) rfl
  have hKc := hK.sub (tys' := []) [] rfl
  have hFc := va_free (wc := []) hD hS hA [] rfl
  refine va_calli (va_runV (As := []) (rest := [.int 28]) ⟨hx, hb, hml, hown, hts⟩ (s_length l dC dI aK aV 0 (by decide) H.size) (cwV 0 hts (gUV tw_509 tw_510 tw_511 tw_15 tw_512) rfl rfl rfl (by decide +kernel) ⟨(Nat.le_of_ble_eq_true rfl), (Nat.le_of_ble_eq_true rfl)⟩) ⟨cPreS.blind, vk_recv hStr.1 (i := 0) (by decide) hS, cPreS.use hPc hKc hDc hE hStr hR hS hFc⟩ rfl rfl hl.1 rfl (lv_room (Nat.le_of_ble_eq_true rfl)) dX9_takeWord_52 ⟨(Nat.le_of_ble_eq_true rfl), (Nat.le_of_ble_eq_true rfl)⟩) hS (fun q _ h => hFc q h) hFc (fun r_162 u t H1 locs ht hvm hw hB hz1 hk1 hS => ?_)
  obtain ⟨hP, hD⟩ := va_join (wr := [(tp, .inr (9, [.ref tb, .int 0, .int 0, .int 0]))]) (w1 := []) hP hD [] [0] rfl rfl (by decide) (by decide) hk1 hFc (va_P_nil _ _ _) (va_D_nil _)
  generalize H1 = H at hP hS ⊢
  have hP : va_P (dC, dI) vwCl [(tp, .inr (9, [.ref tb, .int 0, .int 0, .int 0]))] H := hP
  have hD : va_D A [(tp, .inr (9, [.ref tb, .int 0, .int 0, .int 0]))] := hD
  obtain rfl : r_162 = 36 := hw.trans (by decide)
  refine lv_icmp_ge (tgt := 127) hx hb dX9_takeWord_55 (by decide) (fun c_163 => absurd c_163 (by decide)) (fun c_163 => ?_)
  refine lv_aload_n hx hb dX9_takeWord_58 rfl (lv_at hl 4 rfl) ?_
  refine va_get (D := (dC, dI)) (ci := 9) (v := .int 0) (C := RX9) (T := TX9) (N := 4) hx hb hts iX9 hown hK hP 0 rfl rfl 3 (by decide) (hts _ tw_44) (fun _ h9 => h9) rfl dX9_takeWord_59 ?_
  refine lv_if_ne (tgt := 127) hx hb dX9_takeWord_62 (by decide) (fun c_164 => absurd (by decide) c_164) (fun c_164 => ?_)
  refine lv_aload_n hx hb dX9_takeWord_65 rfl (lv_at hl 5 rfl) ?_
  refine lv_iload hx hb dX9_takeWord_66 (lv_at hl 0 rfl) ?_
  have hPc := hP.sub (ws' := []) [] rfl
  have hDc := hD.sub (ws' := []) [] (by decide) rfl
  have hKc := hK.sub (tys' := []) [] rfl
  have hFc := va_free (wc := []) hD hS hA [] rfl
  refine va_calli (va_runV (As := [.int 28]) (rest := []) ⟨hx, hb, hml, hown, hts⟩ (s_charAt l dC dI aK aV 0 28 (by decide) (by decide) H.size) (cwV 1 hts (gUV tw_519 tw_520 tw_521 tw_15 tw_522) rfl rfl rfl (by decide +kernel) ⟨(Nat.le_of_ble_eq_true rfl), (Nat.le_of_ble_eq_true rfl)⟩) ⟨cPreS.blind, vk_recv hStr.1 (i := 0) (by decide) hS, cPreS.use hPc hKc hDc hE hStr hR hS hFc⟩ rfl rfl hl.1 rfl (lv_room (Nat.le_of_ble_eq_true rfl)) dX9_takeWord_68 ⟨(Nat.le_of_ble_eq_true rfl), (Nat.le_of_ble_eq_true rfl)⟩) hS (fun q _ h => hFc q h) hFc (fun r_165 u t H1 locs ht hvm hw hB hz1 hk1 hS => ?_)
  obtain ⟨hP, hD⟩ := va_join (wr := [(tp, .inr (9, [.ref tb, .int 0, .int 0, .int 0]))]) (w1 := []) hP hD [] [0] rfl rfl (by decide) (by decide) hk1 hFc (va_P_nil _ _ _) (va_D_nil _)
  generalize H1 = H at hP hS ⊢
  have hP : va_P (dC, dI) vwCl [(tp, .inr (9, [.ref tb, .int 0, .int 0, .int 0]))] H := hP
  have hD : va_D A [(tp, .inr (9, [.ref tb, .int 0, .int 0, .int 0]))] := hD
  obtain rfl : r_165 = 97 := hw.trans (by decide)
  refine lv_bipush (v := 32) hx hb dX9_takeWord_71 (by decide) ?_
  refine lv_icmp_eq (tgt := 79) hx hb dX9_takeWord_73 (by decide) (fun c_166 => absurd c_166 (by decide)) (fun c_166 => ?_)
  refine lv_goto (tgt := 121) hx hb dX9_takeWord_76 (by decide) ?_
  refine lv_iinc (v := 29) (lv' := [(5, .int 29), (4, .int 27), (3, .int 5), (2, .int 0), (0, .ref tp), (1, .ref (aK 0))]) hx hb dX9_takeWord_121 hl (k := 0) rfl (by decide) (by decide) rfl (fun ls hl => ?_)
  refine lv_goto (tgt := 49) hx hb dX9_takeWord_124 (by decide) ?_
  refine lv_iload hx hb dX9_takeWord_49 (lv_at hl 0 rfl) ?_
  refine lv_aload_n hx hb dX9_takeWord_51 rfl (lv_at hl 5 rfl) ?_
  have hPc := hP.sub (ws' := []) [] rfl
  have hDc := hD.sub (ws' := []) [] (by decide) rfl
  have hKc := hK.sub (tys' := []) [] rfl
  have hFc := va_free (wc := []) hD hS hA [] rfl
  refine va_calli (va_runV (As := []) (rest := [.int 29]) ⟨hx, hb, hml, hown, hts⟩ (s_length l dC dI aK aV 0 (by decide) H.size) (cwV 0 hts (gUV tw_509 tw_510 tw_511 tw_15 tw_512) rfl rfl rfl (by decide +kernel) ⟨(Nat.le_of_ble_eq_true rfl), (Nat.le_of_ble_eq_true rfl)⟩) ⟨cPreS.blind, vk_recv hStr.1 (i := 0) (by decide) hS, cPreS.use hPc hKc hDc hE hStr hR hS hFc⟩ rfl rfl hl.1 rfl (lv_room (Nat.le_of_ble_eq_true rfl)) dX9_takeWord_52 ⟨(Nat.le_of_ble_eq_true rfl), (Nat.le_of_ble_eq_true rfl)⟩) hS (fun q _ h => hFc q h) hFc (fun r_167 u t H1 locs ht hvm hw hB hz1 hk1 hS => ?_)
  obtain ⟨hP, hD⟩ := va_join (wr := [(tp, .inr (9, [.ref tb, .int 0, .int 0, .int 0]))]) (w1 := []) hP hD [] [0] rfl rfl (by decide) (by decide) hk1 hFc (va_P_nil _ _ _) (va_D_nil _)
  generalize H1 = H at hP hS ⊢
  have hP : va_P (dC, dI) vwCl [(tp, .inr (9, [.ref tb, .int 0, .int 0, .int 0]))] H := hP
  have hD : va_D A [(tp, .inr (9, [.ref tb, .int 0, .int 0, .int 0]))] := hD
  obtain rfl : r_167 = 36 := hw.trans (by decide)
  refine lv_icmp_ge (tgt := 127) hx hb dX9_takeWord_55 (by decide) (fun c_168 => absurd c_168 (by decide)) (fun c_168 => ?_)
  refine lv_aload_n hx hb dX9_takeWord_58 rfl (lv_at hl 4 rfl) ?_
  refine va_get (D := (dC, dI)) (ci := 9) (v := .int 0) (C := RX9) (T := TX9) (N := 4) hx hb hts iX9 hown hK hP 0 rfl rfl 3 (by decide) (hts _ tw_44) (fun _ h9 => h9) rfl dX9_takeWord_59 ?_
  refine lv_if_ne (tgt := 127) hx hb dX9_takeWord_62 (by decide) (fun c_169 => absurd (by decide) c_169) (fun c_169 => ?_)
  refine lv_aload_n hx hb dX9_takeWord_65 rfl (lv_at hl 5 rfl) ?_
  refine lv_iload hx hb dX9_takeWord_66 (lv_at hl 0 rfl) ?_
  have hPc := hP.sub (ws' := []) [] rfl
  have hDc := hD.sub (ws' := []) [] (by decide) rfl
  have hKc := hK.sub (tys' := []) [] rfl
  have hFc := va_free (wc := []) hD hS hA [] rfl
  refine va_calli (va_runV (As := [.int 29]) (rest := []) ⟨hx, hb, hml, hown, hts⟩ (s_charAt l dC dI aK aV 0 29 (by decide) (by decide) H.size) (cwV 1 hts (gUV tw_519 tw_520 tw_521 tw_15 tw_522) rfl rfl rfl (by decide +kernel) ⟨(Nat.le_of_ble_eq_true rfl), (Nat.le_of_ble_eq_true rfl)⟩) ⟨cPreS.blind, vk_recv hStr.1 (i := 0) (by decide) hS, cPreS.use hPc hKc hDc hE hStr hR hS hFc⟩ rfl rfl hl.1 rfl (lv_room (Nat.le_of_ble_eq_true rfl)) dX9_takeWord_68 ⟨(Nat.le_of_ble_eq_true rfl), (Nat.le_of_ble_eq_true rfl)⟩) hS (fun q _ h => hFc q h) hFc (fun r_170 u t H1 locs ht hvm hw hB hz1 hk1 hS => ?_)
  obtain ⟨hP, hD⟩ := va_join (wr := [(tp, .inr (9, [.ref tb, .int 0, .int 0, .int 0]))]) (w1 := []) hP hD [] [0] rfl rfl (by decide) (by decide) hk1 hFc (va_P_nil _ _ _) (va_D_nil _)
  generalize H1 = H at hP hS ⊢
  have hP : va_P (dC, dI) vwCl [(tp, .inr (9, [.ref tb, .int 0, .int 0, .int 0]))] H := hP
  have hD : va_D A [(tp, .inr (9, [.ref tb, .int 0, .int 0, .int 0]))] := hD
  obtain rfl : r_170 = 121 := hw.trans (by decide)
  refine lv_bipush (v := 32) hx hb dX9_takeWord_71 (by decide) ?_
  refine lv_icmp_eq (tgt := 79) hx hb dX9_takeWord_73 (by decide) (fun c_171 => absurd c_171 (by decide)) (fun c_171 => ?_)
  refine lv_goto (tgt := 121) hx hb dX9_takeWord_76 (by decide) ?_
  refine lv_iinc (v := 30) (lv' := [(5, .int 30), (4, .int 27), (3, .int 5), (2, .int 0), (0, .ref tp), (1, .ref (aK 0))]) hx hb dX9_takeWord_121 hl (k := 0) rfl (by decide) (by decide) rfl (fun ls hl => ?_)
  refine lv_goto (tgt := 49) hx hb dX9_takeWord_124 (by decide) ?_
  refine lv_iload hx hb dX9_takeWord_49 (lv_at hl 0 rfl) ?_
  refine lv_aload_n hx hb dX9_takeWord_51 rfl (lv_at hl 5 rfl) ?_
  have hPc := hP.sub (ws' := []) [] rfl
  have hDc := hD.sub (ws' := []) [] (by decide) rfl
  have hKc := hK.sub (tys' := []) [] rfl
  have hFc := va_free (wc := []) hD hS hA [] rfl
  refine va_calli (va_runV (As := []) (rest := [.int 30]) ⟨hx, hb, hml, hown, hts⟩ (s_length l dC dI aK aV 0 (by decide) H.size) (cwV 0 hts (gUV tw_509 tw_510 tw_511 tw_15 tw_512) rfl rfl rfl (by decide +kernel) ⟨(Nat.le_of_ble_eq_true rfl), (Nat.le_of_ble_eq_true rfl)⟩) ⟨cPreS.blind, vk_recv hStr.1 (i := 0) (by decide) hS, cPreS.use hPc hKc hDc hE hStr hR hS hFc⟩ rfl rfl hl.1 rfl (lv_room (Nat.le_of_ble_eq_true rfl)) dX9_takeWord_52 ⟨(Nat.le_of_ble_eq_true rfl), (Nat.le_of_ble_eq_true rfl)⟩) hS (fun q _ h => hFc q h) hFc (fun r_172 u t H1 locs ht hvm hw hB hz1 hk1 hS => ?_)
  obtain ⟨hP, hD⟩ := va_join (wr := [(tp, .inr (9, [.ref tb, .int 0, .int 0, .int 0]))]) (w1 := []) hP hD [] [0] rfl rfl (by decide) (by decide) hk1 hFc (va_P_nil _ _ _) (va_D_nil _)
  generalize H1 = H at hP hS ⊢
  have hP : va_P (dC, dI) vwCl [(tp, .inr (9, [.ref tb, .int 0, .int 0, .int 0]))] H := hP
  have hD : va_D A [(tp, .inr (9, [.ref tb, .int 0, .int 0, .int 0]))] := hD
  obtain rfl : r_172 = 36 := hw.trans (by decide)
  refine lv_icmp_ge (tgt := 127) hx hb dX9_takeWord_55 (by decide) (fun c_173 => absurd c_173 (by decide)) (fun c_173 => ?_)
  refine lv_aload_n hx hb dX9_takeWord_58 rfl (lv_at hl 4 rfl) ?_
  refine va_get (D := (dC, dI)) (ci := 9) (v := .int 0) (C := RX9) (T := TX9) (N := 4) hx hb hts iX9 hown hK hP 0 rfl rfl 3 (by decide) (hts _ tw_44) (fun _ h9 => h9) rfl dX9_takeWord_59 ?_
  refine lv_if_ne (tgt := 127) hx hb dX9_takeWord_62 (by decide) (fun c_174 => absurd (by decide) c_174) (fun c_174 => ?_)
  refine lv_aload_n hx hb dX9_takeWord_65 rfl (lv_at hl 5 rfl) ?_
  refine lv_iload hx hb dX9_takeWord_66 (lv_at hl 0 rfl) ?_
  have hPc := hP.sub (ws' := []) [] rfl
  have hDc := hD.sub (ws' := []) [] (by decide) rfl
  have hKc := hK.sub (tys' := []) [] rfl
  have hFc := va_free (wc := []) hD hS hA [] rfl
  refine va_calli (va_runV (As := [.int 30]) (rest := []) ⟨hx, hb, hml, hown, hts⟩ (s_charAt l dC dI aK aV 0 30 (by decide) (by decide) H.size) (cwV 1 hts (gUV tw_519 tw_520 tw_521 tw_15 tw_522) rfl rfl rfl (by decide +kernel) ⟨(Nat.le_of_ble_eq_true rfl), (Nat.le_of_ble_eq_true rfl)⟩) ⟨cPreS.blind, vk_recv hStr.1 (i := 0) (by decide) hS, cPreS.use hPc hKc hDc hE hStr hR hS hFc⟩ rfl rfl hl.1 rfl (lv_room (Nat.le_of_ble_eq_true rfl)) dX9_takeWord_68 ⟨(Nat.le_of_ble_eq_true rfl), (Nat.le_of_ble_eq_true rfl)⟩) hS (fun q _ h => hFc q h) hFc (fun r_175 u t H1 locs ht hvm hw hB hz1 hk1 hS => ?_)
  obtain ⟨hP, hD⟩ := va_join (wr := [(tp, .inr (9, [.ref tb, .int 0, .int 0, .int 0]))]) (w1 := []) hP hD [] [0] rfl rfl (by decide) (by decide) hk1 hFc (va_P_nil _ _ _) (va_D_nil _)
  generalize H1 = H at hP hS ⊢
  have hP : va_P (dC, dI) vwCl [(tp, .inr (9, [.ref tb, .int 0, .int 0, .int 0]))] H := hP
  have hD : va_D A [(tp, .inr (9, [.ref tb, .int 0, .int 0, .int 0]))] := hD
  obtain rfl : r_175 = 32 := hw.trans (by decide)
  refine lv_bipush (v := 32) hx hb dX9_takeWord_71 (by decide) ?_
  refine lv_icmp_eq (tgt := 79) hx hb dX9_takeWord_73 (by decide) (fun c_176 => ?_) (fun c_176 => absurd (by decide) c_176)
  refine lv_iload hx hb dX9_takeWord_79 (lv_at hl 0 rfl) ?_
  refine lv_iload hx hb dX9_takeWord_81 (lv_at hl 1 rfl) ?_
  refine lv_isub hx hb dX9_takeWord_83 ?_
  refine lv_topi (fun x_177 ex_177 => ?_)
  obtain rfl : x_177 = 3 := ex_177.trans (by decide)
  refine lv_iload_n hx hb dX9_takeWord_84 rfl (lv_at hl 3 rfl) ?_
  refine lv_aload_n hx hb dX9_takeWord_85 rfl (lv_at hl 4 rfl) ?_
  refine va_get (D := (dC, dI)) (ci := 9) (v := .int 0) (C := RX9) (T := TX9) (N := 4) hx hb hts iX9 hown hK hP 0 rfl rfl 2 (by decide) (hts _ tw_41) (fun _ h9 => h9) rfl dX9_takeWord_86 ?_
  refine lv_isub hx hb dX9_takeWord_89 ?_
  refine lv_topi (fun x_178 ex_178 => ?_)
  obtain rfl : x_178 = 0 := ex_178.trans (by decide)
  refine lv_icmp_ne (tgt := 112) hx hb dX9_takeWord_90 (by decide) (fun c_179 => ?_) (fun c_179 => absurd c_179 (by decide))
  refine lv_iinc (v := 6) (lv' := [(3, .int 6), (5, .int 30), (4, .int 27), (2, .int 0), (0, .ref tp), (1, .ref (aK 0))]) hx hb dX9_takeWord_112 hl (k := 2) rfl (by decide) (by decide) rfl (fun ls hl => ?_)
  refine lv_iload hx hb dX9_takeWord_115 (lv_at hl 1 rfl) ?_
  refine lv_iconst (v := 1) hx hb dX9_takeWord_117 (by decide) ?_
  refine lv_iadd hx hb dX9_takeWord_118 ?_
  refine lv_topi (fun x_180 ex_180 => ?_)
  obtain rfl : x_180 = 31 := ex_180.trans (by decide)
  refine lv_istore (lv' := [(4, .int 31), (3, .int 6), (5, .int 30), (2, .int 0), (0, .ref tp), (1, .ref (aK 0))]) hx hb dX9_takeWord_119 hl (by decide) rfl (fun ls hl => ?_)
  refine lv_iinc (v := 31) (lv' := [(5, .int 31), (4, .int 31), (3, .int 6), (2, .int 0), (0, .ref tp), (1, .ref (aK 0))]) hx hb dX9_takeWord_121 hl (k := 2) rfl (by decide) (by decide) rfl (fun ls hl => ?_)
  refine lv_goto (tgt := 49) hx hb dX9_takeWord_124 (by decide) ?_
  refine lv_iload hx hb dX9_takeWord_49 (lv_at hl 0 rfl) ?_
  refine lv_aload_n hx hb dX9_takeWord_51 rfl (lv_at hl 5 rfl) ?_
  have hPc := hP.sub (ws' := []) [] rfl
  have hDc := hD.sub (ws' := []) [] (by decide) rfl
  have hKc := hK.sub (tys' := []) [] rfl
  have hFc := va_free (wc := []) hD hS hA [] rfl
  refine va_calli (va_runV (As := []) (rest := [.int 31]) ⟨hx, hb, hml, hown, hts⟩ (s_length l dC dI aK aV 0 (by decide) H.size) (cwV 0 hts (gUV tw_509 tw_510 tw_511 tw_15 tw_512) rfl rfl rfl (by decide +kernel) ⟨(Nat.le_of_ble_eq_true rfl), (Nat.le_of_ble_eq_true rfl)⟩) ⟨cPreS.blind, vk_recv hStr.1 (i := 0) (by decide) hS, cPreS.use hPc hKc hDc hE hStr hR hS hFc⟩ rfl rfl hl.1 rfl (lv_room (Nat.le_of_ble_eq_true rfl)) dX9_takeWord_52 ⟨(Nat.le_of_ble_eq_true rfl), (Nat.le_of_ble_eq_true rfl)⟩) hS (fun q _ h => hFc q h) hFc (fun r_181 u t H1 locs ht hvm hw hB hz1 hk1 hS => ?_)
  obtain ⟨hP, hD⟩ := va_join (wr := [(tp, .inr (9, [.ref tb, .int 0, .int 0, .int 0]))]) (w1 := []) hP hD [] [0] rfl rfl (by decide) (by decide) hk1 hFc (va_P_nil _ _ _) (va_D_nil _)
  generalize H1 = H at hP hS ⊢
  have hP : va_P (dC, dI) vwCl [(tp, .inr (9, [.ref tb, .int 0, .int 0, .int 0]))] H := hP
  have hD : va_D A [(tp, .inr (9, [.ref tb, .int 0, .int 0, .int 0]))] := hD
  obtain rfl : r_181 = 36 := hw.trans (by decide)
  refine lv_icmp_ge (tgt := 127) hx hb dX9_takeWord_55 (by decide) (fun c_182 => absurd c_182 (by decide)) (fun c_182 => ?_)
  refine lv_aload_n hx hb dX9_takeWord_58 rfl (lv_at hl 4 rfl) ?_
  refine va_get (D := (dC, dI)) (ci := 9) (v := .int 0) (C := RX9) (T := TX9) (N := 4) hx hb hts iX9 hown hK hP 0 rfl rfl 3 (by decide) (hts _ tw_44) (fun _ h9 => h9) rfl dX9_takeWord_59 ?_
  refine lv_if_ne (tgt := 127) hx hb dX9_takeWord_62 (by decide) (fun c_183 => absurd (by decide) c_183) (fun c_183 => ?_)
  refine lv_aload_n hx hb dX9_takeWord_65 rfl (lv_at hl 5 rfl) ?_
  refine lv_iload hx hb dX9_takeWord_66 (lv_at hl 0 rfl) ?_
  have hPc := hP.sub (ws' := []) [] rfl
  have hDc := hD.sub (ws' := []) [] (by decide) rfl
  have hKc := hK.sub (tys' := []) [] rfl
  have hFc := va_free (wc := []) hD hS hA [] rfl
  refine va_calli (va_runV (As := [.int 31]) (rest := []) ⟨hx, hb, hml, hown, hts⟩ (s_charAt l dC dI aK aV 0 31 (by decide) (by decide) H.size) (cwV 1 hts (gUV tw_519 tw_520 tw_521 tw_15 tw_522) rfl rfl rfl (by decide +kernel) ⟨(Nat.le_of_ble_eq_true rfl), (Nat.le_of_ble_eq_true rfl)⟩) ⟨cPreS.blind, vk_recv hStr.1 (i := 0) (by decide) hS, cPreS.use hPc hKc hDc hE hStr hR hS hFc⟩ rfl rfl hl.1 rfl (lv_room (Nat.le_of_ble_eq_true rfl)) dX9_takeWord_68 ⟨(Nat.le_of_ble_eq_true rfl), (Nat.le_of_ble_eq_true rfl)⟩) hS (fun q _ h => hFc q h) hFc (fun r_184 u t H1 locs ht hvm hw hB hz1 hk1 hS => ?_)
  obtain ⟨hP, hD⟩ := va_join (wr := [(tp, .inr (9, [.ref tb, .int 0, .int 0, .int 0]))]) (w1 := []) hP hD [] [0] rfl rfl (by decide) (by decide) hk1 hFc (va_P_nil _ _ _) (va_D_nil _)
  generalize H1 = H at hP hS ⊢
  have hP : va_P (dC, dI) vwCl [(tp, .inr (9, [.ref tb, .int 0, .int 0, .int 0]))] H := hP
  have hD : va_D A [(tp, .inr (9, [.ref tb, .int 0, .int 0, .int 0]))] := hD
  obtain rfl : r_184 = 115 := hw.trans (by decide)
  refine lv_bipush (v := 32) hx hb dX9_takeWord_71 (by decide) ?_
  refine lv_icmp_eq (tgt := 79) hx hb dX9_takeWord_73 (by decide) (fun c_185 => absurd c_185 (by decide)) (fun c_185 => ?_)
  refine lv_goto (tgt := 121) hx hb dX9_takeWord_76 (by decide) ?_
  refine lv_iinc (v := 32) (lv' := [(5, .int 32), (4, .int 31), (3, .int 6), (2, .int 0), (0, .ref tp), (1, .ref (aK 0))]) hx hb dX9_takeWord_121 hl (k := 0) rfl (by decide) (by decide) rfl (fun ls hl => ?_)
  refine lv_goto (tgt := 49) hx hb dX9_takeWord_124 (by decide) ?_
  refine lv_iload hx hb dX9_takeWord_49 (lv_at hl 0 rfl) ?_
  refine lv_aload_n hx hb dX9_takeWord_51 rfl (lv_at hl 5 rfl) ?_
  have hPc := hP.sub (ws' := []) [] rfl
  have hDc := hD.sub (ws' := []) [] (by decide) rfl
  have hKc := hK.sub (tys' := []) [] rfl
  have hFc := va_free (wc := []) hD hS hA [] rfl
  refine va_calli (va_runV (As := []) (rest := [.int 32]) ⟨hx, hb, hml, hown, hts⟩ (s_length l dC dI aK aV 0 (by decide) H.size) (cwV 0 hts (gUV tw_509 tw_510 tw_511 tw_15 tw_512) rfl rfl rfl (by decide +kernel) ⟨(Nat.le_of_ble_eq_true rfl), (Nat.le_of_ble_eq_true rfl)⟩) ⟨cPreS.blind, vk_recv hStr.1 (i := 0) (by decide) hS, cPreS.use hPc hKc hDc hE hStr hR hS hFc⟩ rfl rfl hl.1 rfl (lv_room (Nat.le_of_ble_eq_true rfl)) dX9_takeWord_52 ⟨(Nat.le_of_ble_eq_true rfl), (Nat.le_of_ble_eq_true rfl)⟩) hS (fun q _ h => hFc q h) hFc (fun r_186 u t H1 locs ht hvm hw hB hz1 hk1 hS => ?_)
  obtain ⟨hP, hD⟩ := va_join (wr := [(tp, .inr (9, [.ref tb, .int 0, .int 0, .int 0]))]) (w1 := []) hP hD [] [0] rfl rfl (by decide) (by decide) hk1 hFc (va_P_nil _ _ _) (va_D_nil _)
  generalize H1 = H at hP hS ⊢
  have hP : va_P (dC, dI) vwCl [(tp, .inr (9, [.ref tb, .int 0, .int 0, .int 0]))] H := hP
  have hD : va_D A [(tp, .inr (9, [.ref tb, .int 0, .int 0, .int 0]))] := hD
  obtain rfl : r_186 = 36 := hw.trans (by decide)
  refine lv_icmp_ge (tgt := 127) hx hb dX9_takeWord_55 (by decide) (fun c_187 => absurd c_187 (by decide)) (fun c_187 => ?_)
  refine lv_aload_n hx hb dX9_takeWord_58 rfl (lv_at hl 4 rfl) ?_
  refine va_get (D := (dC, dI)) (ci := 9) (v := .int 0) (C := RX9) (T := TX9) (N := 4) hx hb hts iX9 hown hK hP 0 rfl rfl 3 (by decide) (hts _ tw_44) (fun _ h9 => h9) rfl dX9_takeWord_59 ?_
  refine lv_if_ne (tgt := 127) hx hb dX9_takeWord_62 (by decide) (fun c_188 => absurd (by decide) c_188) (fun c_188 => ?_)
  refine lv_aload_n hx hb dX9_takeWord_65 rfl (lv_at hl 5 rfl) ?_
  refine lv_iload hx hb dX9_takeWord_66 (lv_at hl 0 rfl) ?_
  have hPc := hP.sub (ws' := []) [] rfl
  have hDc := hD.sub (ws' := []) [] (by decide) rfl
  have hKc := hK.sub (tys' := []) [] rfl
  have hFc := va_free (wc := []) hD hS hA [] rfl
  refine va_calli (va_runV (As := [.int 32]) (rest := []) ⟨hx, hb, hml, hown, hts⟩ (s_charAt l dC dI aK aV 0 32 (by decide) (by decide) H.size) (cwV 1 hts (gUV tw_519 tw_520 tw_521 tw_15 tw_522) rfl rfl rfl (by decide +kernel) ⟨(Nat.le_of_ble_eq_true rfl), (Nat.le_of_ble_eq_true rfl)⟩) ⟨cPreS.blind, vk_recv hStr.1 (i := 0) (by decide) hS, cPreS.use hPc hKc hDc hE hStr hR hS hFc⟩ rfl rfl hl.1 rfl (lv_room (Nat.le_of_ble_eq_true rfl)) dX9_takeWord_68 ⟨(Nat.le_of_ble_eq_true rfl), (Nat.le_of_ble_eq_true rfl)⟩) hS (fun q _ h => hFc q h) hFc (fun r_189 u t H1 locs ht hvm hw hB hz1 hk1 hS => ?_)
  obtain ⟨hP, hD⟩ := va_join (wr := [(tp, .inr (9, [.ref tb, .int 0, .int 0, .int 0]))]) (w1 := []) hP hD [] [0] rfl rfl (by decide) (by decide) hk1 hFc (va_P_nil _ _ _) (va_D_nil _)
  generalize H1 = H at hP hS ⊢
  have hP : va_P (dC, dI) vwCl [(tp, .inr (9, [.ref tb, .int 0, .int 0, .int 0]))] H := hP
  have hD : va_D A [(tp, .inr (9, [.ref tb, .int 0, .int 0, .int 0]))] := hD
  obtain rfl : r_189 = 110 := hw.trans (by decide)
  refine lv_bipush (v := 32) hx hb dX9_takeWord_71 (by decide) ?_
  refine lv_icmp_eq (tgt := 79) hx hb dX9_takeWord_73 (by decide) (fun c_190 => absurd c_190 (by decide)) (fun c_190 => ?_)
  refine lv_goto (tgt := 121) hx hb dX9_takeWord_76 (by decide) ?_
  refine lv_iinc (v := 33) (lv' := [(5, .int 33), (4, .int 31), (3, .int 6), (2, .int 0), (0, .ref tp), (1, .ref (aK 0))]) hx hb dX9_takeWord_121 hl (k := 0) rfl (by decide) (by decide) rfl (fun ls hl => ?_)
  refine lv_goto (tgt := 49) hx hb dX9_takeWord_124 (by decide) ?_
  refine lv_iload hx hb dX9_takeWord_49 (lv_at hl 0 rfl) ?_
  refine lv_aload_n hx hb dX9_takeWord_51 rfl (lv_at hl 5 rfl) ?_
  have hPc := hP.sub (ws' := []) [] rfl
  have hDc := hD.sub (ws' := []) [] (by decide) rfl
  have hKc := hK.sub (tys' := []) [] rfl
  have hFc := va_free (wc := []) hD hS hA [] rfl
  refine va_calli (va_runV (As := []) (rest := [.int 33]) ⟨hx, hb, hml, hown, hts⟩ (s_length l dC dI aK aV 0 (by decide) H.size) (cwV 0 hts (gUV tw_509 tw_510 tw_511 tw_15 tw_512) rfl rfl rfl (by decide +kernel) ⟨(Nat.le_of_ble_eq_true rfl), (Nat.le_of_ble_eq_true rfl)⟩) ⟨cPreS.blind, vk_recv hStr.1 (i := 0) (by decide) hS, cPreS.use hPc hKc hDc hE hStr hR hS hFc⟩ rfl rfl hl.1 rfl (lv_room (Nat.le_of_ble_eq_true rfl)) dX9_takeWord_52 ⟨(Nat.le_of_ble_eq_true rfl), (Nat.le_of_ble_eq_true rfl)⟩) hS (fun q _ h => hFc q h) hFc (fun r_191 u t H1 locs ht hvm hw hB hz1 hk1 hS => ?_)
  obtain ⟨hP, hD⟩ := va_join (wr := [(tp, .inr (9, [.ref tb, .int 0, .int 0, .int 0]))]) (w1 := []) hP hD [] [0] rfl rfl (by decide) (by decide) hk1 hFc (va_P_nil _ _ _) (va_D_nil _)
  generalize H1 = H at hP hS ⊢
  have hP : va_P (dC, dI) vwCl [(tp, .inr (9, [.ref tb, .int 0, .int 0, .int 0]))] H := hP
  have hD : va_D A [(tp, .inr (9, [.ref tb, .int 0, .int 0, .int 0]))] := hD
  obtain rfl : r_191 = 36 := hw.trans (by decide)
  refine lv_icmp_ge (tgt := 127) hx hb dX9_takeWord_55 (by decide) (fun c_192 => absurd c_192 (by decide)) (fun c_192 => ?_)
  refine lv_aload_n hx hb dX9_takeWord_58 rfl (lv_at hl 4 rfl) ?_
  refine va_get (D := (dC, dI)) (ci := 9) (v := .int 0) (C := RX9) (T := TX9) (N := 4) hx hb hts iX9 hown hK hP 0 rfl rfl 3 (by decide) (hts _ tw_44) (fun _ h9 => h9) rfl dX9_takeWord_59 ?_
  refine lv_if_ne (tgt := 127) hx hb dX9_takeWord_62 (by decide) (fun c_193 => absurd (by decide) c_193) (fun c_193 => ?_)
  refine lv_aload_n hx hb dX9_takeWord_65 rfl (lv_at hl 5 rfl) ?_
  refine lv_iload hx hb dX9_takeWord_66 (lv_at hl 0 rfl) ?_
  have hPc := hP.sub (ws' := []) [] rfl
  have hDc := hD.sub (ws' := []) [] (by decide) rfl
  have hKc := hK.sub (tys' := []) [] rfl
  have hFc := va_free (wc := []) hD hS hA [] rfl
  refine va_calli (va_runV (As := [.int 33]) (rest := []) ⟨hx, hb, hml, hown, hts⟩ (s_charAt l dC dI aK aV 0 33 (by decide) (by decide) H.size) (cwV 1 hts (gUV tw_519 tw_520 tw_521 tw_15 tw_522) rfl rfl rfl (by decide +kernel) ⟨(Nat.le_of_ble_eq_true rfl), (Nat.le_of_ble_eq_true rfl)⟩) ⟨cPreS.blind, vk_recv hStr.1 (i := 0) (by decide) hS, cPreS.use hPc hKc hDc hE hStr hR hS hFc⟩ rfl rfl hl.1 rfl (lv_room (Nat.le_of_ble_eq_true rfl)) dX9_takeWord_68 ⟨(Nat.le_of_ble_eq_true rfl), (Nat.le_of_ble_eq_true rfl)⟩) hS (fun q _ h => hFc q h) hFc (fun r_194 u t H1 locs ht hvm hw hB hz1 hk1 hS => ?_)
  obtain ⟨hP, hD⟩ := va_join (wr := [(tp, .inr (9, [.ref tb, .int 0, .int 0, .int 0]))]) (w1 := []) hP hD [] [0] rfl rfl (by decide) (by decide) hk1 hFc (va_P_nil _ _ _) (va_D_nil _)
  generalize H1 = H at hP hS ⊢
  have hP : va_P (dC, dI) vwCl [(tp, .inr (9, [.ref tb, .int 0, .int 0, .int 0]))] H := hP
  have hD : va_D A [(tp, .inr (9, [.ref tb, .int 0, .int 0, .int 0]))] := hD
  obtain rfl : r_194 = 111 := hw.trans (by decide)
  refine lv_bipush (v := 32) hx hb dX9_takeWord_71 (by decide) ?_
  refine lv_icmp_eq (tgt := 79) hx hb dX9_takeWord_73 (by decide) (fun c_195 => absurd c_195 (by decide)) (fun c_195 => ?_)
  refine lv_goto (tgt := 121) hx hb dX9_takeWord_76 (by decide) ?_
  refine lv_iinc (v := 34) (lv' := [(5, .int 34), (4, .int 31), (3, .int 6), (2, .int 0), (0, .ref tp), (1, .ref (aK 0))]) hx hb dX9_takeWord_121 hl (k := 0) rfl (by decide) (by decide) rfl (fun ls hl => ?_)
  refine lv_goto (tgt := 49) hx hb dX9_takeWord_124 (by decide) ?_
  refine lv_iload hx hb dX9_takeWord_49 (lv_at hl 0 rfl) ?_
  refine lv_aload_n hx hb dX9_takeWord_51 rfl (lv_at hl 5 rfl) ?_
  have hPc := hP.sub (ws' := []) [] rfl
  have hDc := hD.sub (ws' := []) [] (by decide) rfl
  have hKc := hK.sub (tys' := []) [] rfl
  have hFc := va_free (wc := []) hD hS hA [] rfl
  refine va_calli (va_runV (As := []) (rest := [.int 34]) ⟨hx, hb, hml, hown, hts⟩ (s_length l dC dI aK aV 0 (by decide) H.size) (cwV 0 hts (gUV tw_509 tw_510 tw_511 tw_15 tw_512) rfl rfl rfl (by decide +kernel) ⟨(Nat.le_of_ble_eq_true rfl), (Nat.le_of_ble_eq_true rfl)⟩) ⟨cPreS.blind, vk_recv hStr.1 (i := 0) (by decide) hS, cPreS.use hPc hKc hDc hE hStr hR hS hFc⟩ rfl rfl hl.1 rfl (lv_room (Nat.le_of_ble_eq_true rfl)) dX9_takeWord_52 ⟨(Nat.le_of_ble_eq_true rfl), (Nat.le_of_ble_eq_true rfl)⟩) hS (fun q _ h => hFc q h) hFc (fun r_196 u t H1 locs ht hvm hw hB hz1 hk1 hS => ?_)
  obtain ⟨hP, hD⟩ := va_join (wr := [(tp, .inr (9, [.ref tb, .int 0, .int 0, .int 0]))]) (w1 := []) hP hD [] [0] rfl rfl (by decide) (by decide) hk1 hFc (va_P_nil _ _ _) (va_D_nil _)
  generalize H1 = H at hP hS ⊢
  have hP : va_P (dC, dI) vwCl [(tp, .inr (9, [.ref tb, .int 0, .int 0, .int 0]))] H := hP
  have hD : va_D A [(tp, .inr (9, [.ref tb, .int 0, .int 0, .int 0]))] := hD
  obtain rfl : r_196 = 36 := hw.trans (by decide)
  refine lv_icmp_ge (tgt := 127) hx hb dX9_takeWord_55 (by decide) (fun c_197 => absurd c_197 (by decide)) (fun c_197 => ?_)
  refine lv_aload_n hx hb dX9_takeWord_58 rfl (lv_at hl 4 rfl) ?_
  refine va_get (D := (dC, dI)) (ci := 9) (v := .int 0) (C := RX9) (T := TX9) (N := 4) hx hb hts iX9 hown hK hP 0 rfl rfl 3 (by decide) (hts _ tw_44) (fun _ h9 => h9) rfl dX9_takeWord_59 ?_
  refine lv_if_ne (tgt := 127) hx hb dX9_takeWord_62 (by decide) (fun c_198 => absurd (by decide) c_198) (fun c_198 => ?_)
  refine lv_aload_n hx hb dX9_takeWord_65 rfl (lv_at hl 5 rfl) ?_
  refine lv_iload hx hb dX9_takeWord_66 (lv_at hl 0 rfl) ?_
  have hPc := hP.sub (ws' := []) [] rfl
  have hDc := hD.sub (ws' := []) [] (by decide) rfl
  have hKc := hK.sub (tys' := []) [] rfl
  have hFc := va_free (wc := []) hD hS hA [] rfl
  refine va_calli (va_runV (As := [.int 34]) (rest := []) ⟨hx, hb, hml, hown, hts⟩ (s_charAt l dC dI aK aV 0 34 (by decide) (by decide) H.size) (cwV 1 hts (gUV tw_519 tw_520 tw_521 tw_15 tw_522) rfl rfl rfl (by decide +kernel) ⟨(Nat.le_of_ble_eq_true rfl), (Nat.le_of_ble_eq_true rfl)⟩) ⟨cPreS.blind, vk_recv hStr.1 (i := 0) (by decide) hS, cPreS.use hPc hKc hDc hE hStr hR hS hFc⟩ rfl rfl hl.1 rfl (lv_room (Nat.le_of_ble_eq_true rfl)) dX9_takeWord_68 ⟨(Nat.le_of_ble_eq_true rfl), (Nat.le_of_ble_eq_true rfl)⟩) hS (fun q _ h => hFc q h) hFc (fun r_199 u t H1 locs ht hvm hw hB hz1 hk1 hS => ?_)
  obtain ⟨hP, hD⟩ := va_join (wr := [(tp, .inr (9, [.ref tb, .int 0, .int 0, .int 0]))]) (w1 := []) hP hD [] [0] rfl rfl (by decide) (by decide) hk1 hFc (va_P_nil _ _ _) (va_D_nil _)
  generalize H1 = H at hP hS ⊢
  have hP : va_P (dC, dI) vwCl [(tp, .inr (9, [.ref tb, .int 0, .int 0, .int 0]))] H := hP
  have hD : va_D A [(tp, .inr (9, [.ref tb, .int 0, .int 0, .int 0]))] := hD
  obtain rfl : r_199 = 119 := hw.trans (by decide)
  refine lv_bipush (v := 32) hx hb dX9_takeWord_71 (by decide) ?_
  refine lv_icmp_eq (tgt := 79) hx hb dX9_takeWord_73 (by decide) (fun c_200 => absurd c_200 (by decide)) (fun c_200 => ?_)
  refine lv_goto (tgt := 121) hx hb dX9_takeWord_76 (by decide) ?_
  refine lv_iinc (v := 35) (lv' := [(5, .int 35), (4, .int 31), (3, .int 6), (2, .int 0), (0, .ref tp), (1, .ref (aK 0))]) hx hb dX9_takeWord_121 hl (k := 0) rfl (by decide) (by decide) rfl (fun ls hl => ?_)
  refine lv_goto (tgt := 49) hx hb dX9_takeWord_124 (by decide) ?_
  refine lv_iload hx hb dX9_takeWord_49 (lv_at hl 0 rfl) ?_
  refine lv_aload_n hx hb dX9_takeWord_51 rfl (lv_at hl 5 rfl) ?_
  have hPc := hP.sub (ws' := []) [] rfl
  have hDc := hD.sub (ws' := []) [] (by decide) rfl
  have hKc := hK.sub (tys' := []) [] rfl
  have hFc := va_free (wc := []) hD hS hA [] rfl
  refine va_calli (va_runV (As := []) (rest := [.int 35]) ⟨hx, hb, hml, hown, hts⟩ (s_length l dC dI aK aV 0 (by decide) H.size) (cwV 0 hts (gUV tw_509 tw_510 tw_511 tw_15 tw_512) rfl rfl rfl (by decide +kernel) ⟨(Nat.le_of_ble_eq_true rfl), (Nat.le_of_ble_eq_true rfl)⟩) ⟨cPreS.blind, vk_recv hStr.1 (i := 0) (by decide) hS, cPreS.use hPc hKc hDc hE hStr hR hS hFc⟩ rfl rfl hl.1 rfl (lv_room (Nat.le_of_ble_eq_true rfl)) dX9_takeWord_52 ⟨(Nat.le_of_ble_eq_true rfl), (Nat.le_of_ble_eq_true rfl)⟩) hS (fun q _ h => hFc q h) hFc (fun r_201 u t H1 locs ht hvm hw hB hz1 hk1 hS => ?_)
  obtain ⟨hP, hD⟩ := va_join (wr := [(tp, .inr (9, [.ref tb, .int 0, .int 0, .int 0]))]) (w1 := []) hP hD [] [0] rfl rfl (by decide) (by decide) hk1 hFc (va_P_nil _ _ _) (va_D_nil _)
  generalize H1 = H at hP hS ⊢
  have hP : va_P (dC, dI) vwCl [(tp, .inr (9, [.ref tb, .int 0, .int 0, .int 0]))] H := hP
  have hD : va_D A [(tp, .inr (9, [.ref tb, .int 0, .int 0, .int 0]))] := hD
  obtain rfl : r_201 = 36 := hw.trans (by decide)
  refine lv_icmp_ge (tgt := 127) hx hb dX9_takeWord_55 (by decide) (fun c_202 => absurd c_202 (by decide)) (fun c_202 => ?_)
  refine lv_aload_n hx hb dX9_takeWord_58 rfl (lv_at hl 4 rfl) ?_
  refine va_get (D := (dC, dI)) (ci := 9) (v := .int 0) (C := RX9) (T := TX9) (N := 4) hx hb hts iX9 hown hK hP 0 rfl rfl 3 (by decide) (hts _ tw_44) (fun _ h9 => h9) rfl dX9_takeWord_59 ?_
  refine lv_if_ne (tgt := 127) hx hb dX9_takeWord_62 (by decide) (fun c_203 => absurd (by decide) c_203) (fun c_203 => ?_)
  refine lv_aload_n hx hb dX9_takeWord_65 rfl (lv_at hl 5 rfl) ?_
  refine lv_iload hx hb dX9_takeWord_66 (lv_at hl 0 rfl) ?_
  have hPc := hP.sub (ws' := []) [] rfl
  have hDc := hD.sub (ws' := []) [] (by decide) rfl
  have hKc := hK.sub (tys' := []) [] rfl
  have hFc := va_free (wc := []) hD hS hA [] rfl
  refine va_calli (va_runV (As := [.int 35]) (rest := []) ⟨hx, hb, hml, hown, hts⟩ (s_charAt l dC dI aK aV 0 35 (by decide) (by decide) H.size) (cwV 1 hts (gUV tw_519 tw_520 tw_521 tw_15 tw_522) rfl rfl rfl (by decide +kernel) ⟨(Nat.le_of_ble_eq_true rfl), (Nat.le_of_ble_eq_true rfl)⟩) ⟨cPreS.blind, vk_recv hStr.1 (i := 0) (by decide) hS, cPreS.use hPc hKc hDc hE hStr hR hS hFc⟩ rfl rfl hl.1 rfl (lv_room (Nat.le_of_ble_eq_true rfl)) dX9_takeWord_68 ⟨(Nat.le_of_ble_eq_true rfl), (Nat.le_of_ble_eq_true rfl)⟩) hS (fun q _ h => hFc q h) hFc (fun r_204 u t H1 locs ht hvm hw hB hz1 hk1 hS => ?_)
  obtain ⟨hP, hD⟩ := va_join (wr := [(tp, .inr (9, [.ref tb, .int 0, .int 0, .int 0]))]) (w1 := []) hP hD [] [0] rfl rfl (by decide) (by decide) hk1 hFc (va_P_nil _ _ _) (va_D_nil _)
  generalize H1 = H at hP hS ⊢
  have hP : va_P (dC, dI) vwCl [(tp, .inr (9, [.ref tb, .int 0, .int 0, .int 0]))] H := hP
  have hD : va_D A [(tp, .inr (9, [.ref tb, .int 0, .int 0, .int 0]))] := hD
  obtain rfl : r_204 = 32 := hw.trans (by decide)
  refine lv_bipush (v := 32) hx hb dX9_takeWord_71 (by decide) ?_
  refine lv_icmp_eq (tgt := 79) hx hb dX9_takeWord_73 (by decide) (fun c_205 => ?_) (fun c_205 => absurd (by decide) c_205)
  refine lv_iload hx hb dX9_takeWord_79 (lv_at hl 0 rfl) ?_
  refine lv_iload hx hb dX9_takeWord_81 (lv_at hl 1 rfl) ?_
  refine lv_isub hx hb dX9_takeWord_83 ?_
  refine lv_topi (fun x_206 ex_206 => ?_)
  obtain rfl : x_206 = 4 := ex_206.trans (by decide)
  refine lv_iload_n hx hb dX9_takeWord_84 rfl (lv_at hl 3 rfl) ?_
  refine lv_aload_n hx hb dX9_takeWord_85 rfl (lv_at hl 4 rfl) ?_
  refine va_get (D := (dC, dI)) (ci := 9) (v := .int 0) (C := RX9) (T := TX9) (N := 4) hx hb hts iX9 hown hK hP 0 rfl rfl 2 (by decide) (hts _ tw_41) (fun _ h9 => h9) rfl dX9_takeWord_86 ?_
  refine lv_isub hx hb dX9_takeWord_89 ?_
  refine lv_topi (fun x_207 ex_207 => ?_)
  obtain rfl : x_207 = 0 := ex_207.trans (by decide)
  refine lv_icmp_ne (tgt := 112) hx hb dX9_takeWord_90 (by decide) (fun c_208 => ?_) (fun c_208 => absurd c_208 (by decide))
  refine lv_iinc (v := 7) (lv' := [(3, .int 7), (5, .int 35), (4, .int 31), (2, .int 0), (0, .ref tp), (1, .ref (aK 0))]) hx hb dX9_takeWord_112 hl (k := 2) rfl (by decide) (by decide) rfl (fun ls hl => ?_)
  refine lv_iload hx hb dX9_takeWord_115 (lv_at hl 1 rfl) ?_
  refine lv_iconst (v := 1) hx hb dX9_takeWord_117 (by decide) ?_
  refine lv_iadd hx hb dX9_takeWord_118 ?_
  refine lv_topi (fun x_209 ex_209 => ?_)
  obtain rfl : x_209 = 36 := ex_209.trans (by decide)
  refine lv_istore (lv' := [(4, .int 36), (3, .int 7), (5, .int 35), (2, .int 0), (0, .ref tp), (1, .ref (aK 0))]) hx hb dX9_takeWord_119 hl (by decide) rfl (fun ls hl => ?_)
  refine lv_iinc (v := 36) (lv' := [(5, .int 36), (4, .int 36), (3, .int 7), (2, .int 0), (0, .ref tp), (1, .ref (aK 0))]) hx hb dX9_takeWord_121 hl (k := 2) rfl (by decide) (by decide) rfl (fun ls hl => ?_)
  refine lv_goto (tgt := 49) hx hb dX9_takeWord_124 (by decide) ?_
  refine lv_iload hx hb dX9_takeWord_49 (lv_at hl 0 rfl) ?_
  refine lv_aload_n hx hb dX9_takeWord_51 rfl (lv_at hl 5 rfl) ?_
  have hPc := hP.sub (ws' := []) [] rfl
  have hDc := hD.sub (ws' := []) [] (by decide) rfl
  have hKc := hK.sub (tys' := []) [] rfl
  have hFc := va_free (wc := []) hD hS hA [] rfl
  refine va_calli (va_runV (As := []) (rest := [.int 36]) ⟨hx, hb, hml, hown, hts⟩ (s_length l dC dI aK aV 0 (by decide) H.size) (cwV 0 hts (gUV tw_509 tw_510 tw_511 tw_15 tw_512) rfl rfl rfl (by decide +kernel) ⟨(Nat.le_of_ble_eq_true rfl), (Nat.le_of_ble_eq_true rfl)⟩) ⟨cPreS.blind, vk_recv hStr.1 (i := 0) (by decide) hS, cPreS.use hPc hKc hDc hE hStr hR hS hFc⟩ rfl rfl hl.1 rfl (lv_room (Nat.le_of_ble_eq_true rfl)) dX9_takeWord_52 ⟨(Nat.le_of_ble_eq_true rfl), (Nat.le_of_ble_eq_true rfl)⟩) hS (fun q _ h => hFc q h) hFc (fun r_210 u t H1 locs ht hvm hw hB hz1 hk1 hS => ?_)
  obtain ⟨hP, hD⟩ := va_join (wr := [(tp, .inr (9, [.ref tb, .int 0, .int 0, .int 0]))]) (w1 := []) hP hD [] [0] rfl rfl (by decide) (by decide) hk1 hFc (va_P_nil _ _ _) (va_D_nil _)
  generalize H1 = H at hP hS ⊢
  have hP : va_P (dC, dI) vwCl [(tp, .inr (9, [.ref tb, .int 0, .int 0, .int 0]))] H := hP
  have hD : va_D A [(tp, .inr (9, [.ref tb, .int 0, .int 0, .int 0]))] := hD
  obtain rfl : r_210 = 36 := hw.trans (by decide)
  refine lv_icmp_ge (tgt := 127) hx hb dX9_takeWord_55 (by decide) (fun c_211 => ?_) (fun c_211 => absurd (by decide) c_211)
  refine lv_iconst (v := (-1)) hx hb dX9_takeWord_127 (by decide) ?_
  have hP9 := hP.sub (ws' := [(tp, .inr (9, [.ref tb, .int 0, .int 0, .int 0]))]) [0] rfl
  have hD9 := hD.sub (ws' := [(tp, .inr (9, [.ref tb, .int 0, .int 0, .int 0]))]) [0] (by decide) rfl
  have hK9 := hK.sub (tys' := []) [] rfl
  refine W.widen (k := 0) (n := 0) (Nat.le_of_ble_eq_true rfl) (Nat.le_of_ble_eq_true rfl) ?_
  exact W.iret (v := (-1)) hx hb hr (fun t ht hW => ⟨⟨(-1), (), rfl, rfl, ⟨by rw [ht]; exact hP9, va_K.moved hW.alike hK9, hD9⟩⟩, hS.F ht⟩) hS.2.2 dX9_takeWord_128
set_option maxHeartbeats 4000000 in
set_option maxRecDepth 100000 in
theorem c_takeWord_1 (l : Launch) (dC : Nat → ClassId) (dI : Nat → Nat → Nat) (aK aV : Nat → Nat) (tp : Nat) (tb : Nat) (sz : Nat) : Met l yX9_takeWord (ws_u yX9_takeWord cX9_takeWord 6 (some .int)) ({ frames := 4, cells := 0, slots := 0, locals := 85 }) (va_Pc [.ref tp, .ref (aK 1)] (cPreS (dC, dI) aK aV [] [(tp, .inr (9, [.ref tb, .int 0, .int 0, .int 0]))] sz)) (va_Qi (fun (r : Int32) (_ : Unit) => r = (-1)) (fun _ t => cPost (dC, dI) [] [(tp, .inr (9, [.ref tb, .int 0, .int 0, .int 0]))] (va_A [(tp, .inr (9, [.ref tb, .int 0, .int 0, .int 0]))] sz) t) (va_A [(tp, .inr (9, [.ref tb, .int 0, .int 0, .int 0]))] sz)) 0 0 (va_A [(tp, .inr (9, [.ref tb, .int 0, .int 0, .int 0]))] sz) := by
  refine Met.ofW (cc := cX9_takeWord) (maxL := 6) (ret := (some .int)) (by decide) rfl ?_
  intro p e s m args below meth c s₁ B hml hv
  obtain ⟨rfl, ⟨hsz, hP, hK, hD0, hE⟩, hStr, hR⟩ := hv
  have hx := B.exec
  have hb := B.bytes
  have hr := B.returns
  have hts0 := atoms_spec (ws := ws_u yX9_takeWord cX9_takeWord 6 (some .int)) B.pre
  have hts : ∀ w ∈ gT, w.before _ s = true := fun w h => hts0 w (List.mem_cons_of_mem _ h)
  have hown : s.vm.findClass RX9 = some m.cls := findClass_of_methodNamed B.named
  have hlocks := B.notSynchronized
  subst hsz
  have hD := hD0.self (sz := s.heap.size)
  generalize hAe : va_A [(tp, .inr (9, [.ref tb, .int 0, .int 0, .int 0]))] s.heap.size = A at hD hStr ⊢
  have hA : ∀ q : Nat, s.heap.size ≤ q → A q := fun q h => by rw [← hAe]; exact Or.inr h
  have hS : va_S A s.heap s.heap [] := va_S.rf
  have hl := lv_entry ([.ref tp, .ref (aK 1)]) (n := 6) (Nat.le_of_ble_eq_true rfl)
  rw [lg_entry_eq]
  generalize (lg_sl ([.ref tp, .ref (aK 1)]) ++ List.replicate (6 - (lg_sl ([.ref tp, .ref (aK 1)])).length) Slot.unset).toArray = ls at hl ⊢
  have hl : lv_has ls 6 [(0, .ref tp), (1, .ref (aK 1))] := hl
  have hP : va_P (dC, dI) vwCl [(tp, .inr (9, [.ref tb, .int 0, .int 0, .int 0]))] s.heap := hP
  try clear hAe
  refine lv_aload_n hx hb dX9_takeWord_0 rfl (lv_at hl 0 rfl) ?_
  refine va_get (D := (dC, dI)) (ci := 9) (v := .int 0) (C := RX9) (T := TX9) (N := 4) hx hb hts iX9 hown hK hP 0 rfl rfl 2 (by decide) (hts _ tw_41) (fun _ h9 => h9) rfl dX9_takeWord_1 ?_
  refine lv_istore_n (lv' := [(2, .int 0), (0, .ref tp), (1, .ref (aK 1))]) hx hb dX9_takeWord_4 rfl hl (by decide) rfl (fun ls hl => ?_)
  refine lv_iload_n hx hb dX9_takeWord_5 rfl (lv_at hl 0 rfl) ?_
  refine lv_aload_n hx hb dX9_takeWord_6 rfl (lv_at hl 1 rfl) ?_
  refine va_get (D := (dC, dI)) (ci := 9) (v := .int 0) (C := RX9) (T := TX9) (N := 4) hx hb hts iX9 hown hK hP 0 rfl rfl 1 (by decide) (hts _ tw_37) (fun _ h9 => h9) rfl dX9_takeWord_7 ?_
  refine lv_icmp_ge (tgt := 41) hx hb dX9_takeWord_10 (by decide) (fun c_1 => ?_) (fun c_1 => absurd (by decide) c_1)
  refine lv_iconst (v := 0) hx hb dX9_takeWord_41 (by decide) ?_
  refine lv_istore_n (lv' := [(3, .int 0), (2, .int 0), (0, .ref tp), (1, .ref (aK 1))]) hx hb dX9_takeWord_42 rfl hl (by decide) rfl (fun ls hl => ?_)
  refine lv_iconst (v := 0) hx hb dX9_takeWord_43 (by decide) ?_
  refine lv_istore (lv' := [(4, .int 0), (3, .int 0), (2, .int 0), (0, .ref tp), (1, .ref (aK 1))]) hx hb dX9_takeWord_44 hl (by decide) rfl (fun ls hl => ?_)
  refine lv_iconst (v := 0) hx hb dX9_takeWord_46 (by decide) ?_
  refine lv_istore (lv' := [(5, .int 0), (4, .int 0), (3, .int 0), (2, .int 0), (0, .ref tp), (1, .ref (aK 1))]) hx hb dX9_takeWord_47 hl (by decide) rfl (fun ls hl => ?_)
  refine lv_iload hx hb dX9_takeWord_49 (lv_at hl 0 rfl) ?_
  refine lv_aload_n hx hb dX9_takeWord_51 rfl (lv_at hl 5 rfl) ?_
  have hPc := hP.sub (ws' := []) [] rfl
  have hDc := hD.sub (ws' := []) [] (by decide) rfl
  have hKc := hK.sub (tys' := []) [] rfl
  have hFc := va_free (wc := []) hD hS hA [] rfl
  refine va_calli (va_runV (As := []) (rest := [.int 0]) ⟨hx, hb, hml, hown, hts⟩ (s_length l dC dI aK aV 1 (by decide) s.heap.size) (cwV 0 hts (gUV tw_509 tw_510 tw_511 tw_15 tw_512) rfl rfl rfl (by decide +kernel) ⟨(Nat.le_of_ble_eq_true rfl), (Nat.le_of_ble_eq_true rfl)⟩) ⟨cPreS.blind, vk_recv hStr.1 (i := 1) (by decide) hS, cPreS.use hPc hKc hDc hE hStr hR hS hFc⟩ rfl rfl hl.1 rfl (lv_room (Nat.le_of_ble_eq_true rfl)) dX9_takeWord_52 ⟨(Nat.le_of_ble_eq_true rfl), (Nat.le_of_ble_eq_true rfl)⟩) hS (fun q _ h => hFc q h) hFc (fun r_2 u t H1 locs ht hvm hw hB hz1 hk1 hS => ?_)
  obtain ⟨hP, hD⟩ := va_join (wr := [(tp, .inr (9, [.ref tb, .int 0, .int 0, .int 0]))]) (w1 := []) hP hD [] [0] rfl rfl (by decide) (by decide) hk1 hFc (va_P_nil _ _ _) (va_D_nil _)
  generalize H1 = H at hP hS ⊢
  have hP : va_P (dC, dI) vwCl [(tp, .inr (9, [.ref tb, .int 0, .int 0, .int 0]))] H := hP
  have hD : va_D A [(tp, .inr (9, [.ref tb, .int 0, .int 0, .int 0]))] := hD
  obtain rfl : r_2 = 5 := hw.trans (by decide)
  refine lv_icmp_ge (tgt := 127) hx hb dX9_takeWord_55 (by decide) (fun c_3 => absurd c_3 (by decide)) (fun c_3 => ?_)
  refine lv_aload_n hx hb dX9_takeWord_58 rfl (lv_at hl 4 rfl) ?_
  refine va_get (D := (dC, dI)) (ci := 9) (v := .int 0) (C := RX9) (T := TX9) (N := 4) hx hb hts iX9 hown hK hP 0 rfl rfl 3 (by decide) (hts _ tw_44) (fun _ h9 => h9) rfl dX9_takeWord_59 ?_
  refine lv_if_ne (tgt := 127) hx hb dX9_takeWord_62 (by decide) (fun c_4 => absurd (by decide) c_4) (fun c_4 => ?_)
  refine lv_aload_n hx hb dX9_takeWord_65 rfl (lv_at hl 5 rfl) ?_
  refine lv_iload hx hb dX9_takeWord_66 (lv_at hl 0 rfl) ?_
  have hPc := hP.sub (ws' := []) [] rfl
  have hDc := hD.sub (ws' := []) [] (by decide) rfl
  have hKc := hK.sub (tys' := []) [] rfl
  have hFc := va_free (wc := []) hD hS hA [] rfl
  refine va_calli (va_runV (As := [.int 0]) (rest := []) ⟨hx, hb, hml, hown, hts⟩ (s_charAt l dC dI aK aV 1 0 (by decide) (by decide) H.size) (cwV 1 hts (gUV tw_519 tw_520 tw_521 tw_15 tw_522) rfl rfl rfl (by decide +kernel) ⟨(Nat.le_of_ble_eq_true rfl), (Nat.le_of_ble_eq_true rfl)⟩) ⟨cPreS.blind, vk_recv hStr.1 (i := 1) (by decide) hS, cPreS.use hPc hKc hDc hE hStr hR hS hFc⟩ rfl rfl hl.1 rfl (lv_room (Nat.le_of_ble_eq_true rfl)) dX9_takeWord_68 ⟨(Nat.le_of_ble_eq_true rfl), (Nat.le_of_ble_eq_true rfl)⟩) hS (fun q _ h => hFc q h) hFc (fun r_5 u t H1 locs ht hvm hw hB hz1 hk1 hS => ?_)
  obtain ⟨hP, hD⟩ := va_join (wr := [(tp, .inr (9, [.ref tb, .int 0, .int 0, .int 0]))]) (w1 := []) hP hD [] [0] rfl rfl (by decide) (by decide) hk1 hFc (va_P_nil _ _ _) (va_D_nil _)
  generalize H1 = H at hP hS ⊢
  have hP : va_P (dC, dI) vwCl [(tp, .inr (9, [.ref tb, .int 0, .int 0, .int 0]))] H := hP
  have hD : va_D A [(tp, .inr (9, [.ref tb, .int 0, .int 0, .int 0]))] := hD
  obtain rfl : r_5 = 118 := hw.trans (by decide)
  refine lv_bipush (v := 32) hx hb dX9_takeWord_71 (by decide) ?_
  refine lv_icmp_eq (tgt := 79) hx hb dX9_takeWord_73 (by decide) (fun c_6 => absurd c_6 (by decide)) (fun c_6 => ?_)
  refine lv_goto (tgt := 121) hx hb dX9_takeWord_76 (by decide) ?_
  refine lv_iinc (v := 1) (lv' := [(5, .int 1), (4, .int 0), (3, .int 0), (2, .int 0), (0, .ref tp), (1, .ref (aK 1))]) hx hb dX9_takeWord_121 hl (k := 0) rfl (by decide) (by decide) rfl (fun ls hl => ?_)
  refine lv_goto (tgt := 49) hx hb dX9_takeWord_124 (by decide) ?_
  refine lv_iload hx hb dX9_takeWord_49 (lv_at hl 0 rfl) ?_
  refine lv_aload_n hx hb dX9_takeWord_51 rfl (lv_at hl 5 rfl) ?_
  have hPc := hP.sub (ws' := []) [] rfl
  have hDc := hD.sub (ws' := []) [] (by decide) rfl
  have hKc := hK.sub (tys' := []) [] rfl
  have hFc := va_free (wc := []) hD hS hA [] rfl
  refine va_calli (va_runV (As := []) (rest := [.int 1]) ⟨hx, hb, hml, hown, hts⟩ (s_length l dC dI aK aV 1 (by decide) H.size) (cwV 0 hts (gUV tw_509 tw_510 tw_511 tw_15 tw_512) rfl rfl rfl (by decide +kernel) ⟨(Nat.le_of_ble_eq_true rfl), (Nat.le_of_ble_eq_true rfl)⟩) ⟨cPreS.blind, vk_recv hStr.1 (i := 1) (by decide) hS, cPreS.use hPc hKc hDc hE hStr hR hS hFc⟩ rfl rfl hl.1 rfl (lv_room (Nat.le_of_ble_eq_true rfl)) dX9_takeWord_52 ⟨(Nat.le_of_ble_eq_true rfl), (Nat.le_of_ble_eq_true rfl)⟩) hS (fun q _ h => hFc q h) hFc (fun r_7 u t H1 locs ht hvm hw hB hz1 hk1 hS => ?_)
  obtain ⟨hP, hD⟩ := va_join (wr := [(tp, .inr (9, [.ref tb, .int 0, .int 0, .int 0]))]) (w1 := []) hP hD [] [0] rfl rfl (by decide) (by decide) hk1 hFc (va_P_nil _ _ _) (va_D_nil _)
  generalize H1 = H at hP hS ⊢
  have hP : va_P (dC, dI) vwCl [(tp, .inr (9, [.ref tb, .int 0, .int 0, .int 0]))] H := hP
  have hD : va_D A [(tp, .inr (9, [.ref tb, .int 0, .int 0, .int 0]))] := hD
  obtain rfl : r_7 = 5 := hw.trans (by decide)
  refine lv_icmp_ge (tgt := 127) hx hb dX9_takeWord_55 (by decide) (fun c_8 => absurd c_8 (by decide)) (fun c_8 => ?_)
  refine lv_aload_n hx hb dX9_takeWord_58 rfl (lv_at hl 4 rfl) ?_
  refine va_get (D := (dC, dI)) (ci := 9) (v := .int 0) (C := RX9) (T := TX9) (N := 4) hx hb hts iX9 hown hK hP 0 rfl rfl 3 (by decide) (hts _ tw_44) (fun _ h9 => h9) rfl dX9_takeWord_59 ?_
  refine lv_if_ne (tgt := 127) hx hb dX9_takeWord_62 (by decide) (fun c_9 => absurd (by decide) c_9) (fun c_9 => ?_)
  refine lv_aload_n hx hb dX9_takeWord_65 rfl (lv_at hl 5 rfl) ?_
  refine lv_iload hx hb dX9_takeWord_66 (lv_at hl 0 rfl) ?_
  have hPc := hP.sub (ws' := []) [] rfl
  have hDc := hD.sub (ws' := []) [] (by decide) rfl
  have hKc := hK.sub (tys' := []) [] rfl
  have hFc := va_free (wc := []) hD hS hA [] rfl
  refine va_calli (va_runV (As := [.int 1]) (rest := []) ⟨hx, hb, hml, hown, hts⟩ (s_charAt l dC dI aK aV 1 1 (by decide) (by decide) H.size) (cwV 1 hts (gUV tw_519 tw_520 tw_521 tw_15 tw_522) rfl rfl rfl (by decide +kernel) ⟨(Nat.le_of_ble_eq_true rfl), (Nat.le_of_ble_eq_true rfl)⟩) ⟨cPreS.blind, vk_recv hStr.1 (i := 1) (by decide) hS, cPreS.use hPc hKc hDc hE hStr hR hS hFc⟩ rfl rfl hl.1 rfl (lv_room (Nat.le_of_ble_eq_true rfl)) dX9_takeWord_68 ⟨(Nat.le_of_ble_eq_true rfl), (Nat.le_of_ble_eq_true rfl)⟩) hS (fun q _ h => hFc q h) hFc (fun r_10 u t H1 locs ht hvm hw hB hz1 hk1 hS => ?_)
  obtain ⟨hP, hD⟩ := va_join (wr := [(tp, .inr (9, [.ref tb, .int 0, .int 0, .int 0]))]) (w1 := []) hP hD [] [0] rfl rfl (by decide) (by decide) hk1 hFc (va_P_nil _ _ _) (va_D_nil _)
  generalize H1 = H at hP hS ⊢
  have hP : va_P (dC, dI) vwCl [(tp, .inr (9, [.ref tb, .int 0, .int 0, .int 0]))] H := hP
  have hD : va_D A [(tp, .inr (9, [.ref tb, .int 0, .int 0, .int 0]))] := hD
  obtain rfl : r_10 = 111 := hw.trans (by decide)
  refine lv_bipush (v := 32) hx hb dX9_takeWord_71 (by decide) ?_
  refine lv_icmp_eq (tgt := 79) hx hb dX9_takeWord_73 (by decide) (fun c_11 => absurd c_11 (by decide)) (fun c_11 => ?_)
  refine lv_goto (tgt := 121) hx hb dX9_takeWord_76 (by decide) ?_
  refine lv_iinc (v := 2) (lv' := [(5, .int 2), (4, .int 0), (3, .int 0), (2, .int 0), (0, .ref tp), (1, .ref (aK 1))]) hx hb dX9_takeWord_121 hl (k := 0) rfl (by decide) (by decide) rfl (fun ls hl => ?_)
  refine lv_goto (tgt := 49) hx hb dX9_takeWord_124 (by decide) ?_
  refine lv_iload hx hb dX9_takeWord_49 (lv_at hl 0 rfl) ?_
  refine lv_aload_n hx hb dX9_takeWord_51 rfl (lv_at hl 5 rfl) ?_
  have hPc := hP.sub (ws' := []) [] rfl
  have hDc := hD.sub (ws' := []) [] (by decide) rfl
  have hKc := hK.sub (tys' := []) [] rfl
  have hFc := va_free (wc := []) hD hS hA [] rfl
  refine va_calli (va_runV (As := []) (rest := [.int 2]) ⟨hx, hb, hml, hown, hts⟩ (s_length l dC dI aK aV 1 (by decide) H.size) (cwV 0 hts (gUV tw_509 tw_510 tw_511 tw_15 tw_512) rfl rfl rfl (by decide +kernel) ⟨(Nat.le_of_ble_eq_true rfl), (Nat.le_of_ble_eq_true rfl)⟩) ⟨cPreS.blind, vk_recv hStr.1 (i := 1) (by decide) hS, cPreS.use hPc hKc hDc hE hStr hR hS hFc⟩ rfl rfl hl.1 rfl (lv_room (Nat.le_of_ble_eq_true rfl)) dX9_takeWord_52 ⟨(Nat.le_of_ble_eq_true rfl), (Nat.le_of_ble_eq_true rfl)⟩) hS (fun q _ h => hFc q h) hFc (fun r_12 u t H1 locs ht hvm hw hB hz1 hk1 hS => ?_)
  obtain ⟨hP, hD⟩ := va_join (wr := [(tp, .inr (9, [.ref tb, .int 0, .int 0, .int 0]))]) (w1 := []) hP hD [] [0] rfl rfl (by decide) (by decide) hk1 hFc (va_P_nil _ _ _) (va_D_nil _)
  generalize H1 = H at hP hS ⊢
  have hP : va_P (dC, dI) vwCl [(tp, .inr (9, [.ref tb, .int 0, .int 0, .int 0]))] H := hP
  have hD : va_D A [(tp, .inr (9, [.ref tb, .int 0, .int 0, .int 0]))] := hD
  obtain rfl : r_12 = 5 := hw.trans (by decide)
  refine lv_icmp_ge (tgt := 127) hx hb dX9_takeWord_55 (by decide) (fun c_13 => absurd c_13 (by decide)) (fun c_13 => ?_)
  refine lv_aload_n hx hb dX9_takeWord_58 rfl (lv_at hl 4 rfl) ?_
  refine va_get (D := (dC, dI)) (ci := 9) (v := .int 0) (C := RX9) (T := TX9) (N := 4) hx hb hts iX9 hown hK hP 0 rfl rfl 3 (by decide) (hts _ tw_44) (fun _ h9 => h9) rfl dX9_takeWord_59 ?_
  refine lv_if_ne (tgt := 127) hx hb dX9_takeWord_62 (by decide) (fun c_14 => absurd (by decide) c_14) (fun c_14 => ?_)
  refine lv_aload_n hx hb dX9_takeWord_65 rfl (lv_at hl 5 rfl) ?_
  refine lv_iload hx hb dX9_takeWord_66 (lv_at hl 0 rfl) ?_
  have hPc := hP.sub (ws' := []) [] rfl
  have hDc := hD.sub (ws' := []) [] (by decide) rfl
  have hKc := hK.sub (tys' := []) [] rfl
  have hFc := va_free (wc := []) hD hS hA [] rfl
  refine va_calli (va_runV (As := [.int 2]) (rest := []) ⟨hx, hb, hml, hown, hts⟩ (s_charAt l dC dI aK aV 1 2 (by decide) (by decide) H.size) (cwV 1 hts (gUV tw_519 tw_520 tw_521 tw_15 tw_522) rfl rfl rfl (by decide +kernel) ⟨(Nat.le_of_ble_eq_true rfl), (Nat.le_of_ble_eq_true rfl)⟩) ⟨cPreS.blind, vk_recv hStr.1 (i := 1) (by decide) hS, cPreS.use hPc hKc hDc hE hStr hR hS hFc⟩ rfl rfl hl.1 rfl (lv_room (Nat.le_of_ble_eq_true rfl)) dX9_takeWord_68 ⟨(Nat.le_of_ble_eq_true rfl), (Nat.le_of_ble_eq_true rfl)⟩) hS (fun q _ h => hFc q h) hFc (fun r_15 u t H1 locs ht hvm hw hB hz1 hk1 hS => ?_)
  obtain ⟨hP, hD⟩ := va_join (wr := [(tp, .inr (9, [.ref tb, .int 0, .int 0, .int 0]))]) (w1 := []) hP hD [] [0] rfl rfl (by decide) (by decide) hk1 hFc (va_P_nil _ _ _) (va_D_nil _)
  generalize H1 = H at hP hS ⊢
  have hP : va_P (dC, dI) vwCl [(tp, .inr (9, [.ref tb, .int 0, .int 0, .int 0]))] H := hP
  have hD : va_D A [(tp, .inr (9, [.ref tb, .int 0, .int 0, .int 0]))] := hD
  obtain rfl : r_15 = 116 := hw.trans (by decide)
  refine lv_bipush (v := 32) hx hb dX9_takeWord_71 (by decide) ?_
  refine lv_icmp_eq (tgt := 79) hx hb dX9_takeWord_73 (by decide) (fun c_16 => absurd c_16 (by decide)) (fun c_16 => ?_)
  refine lv_goto (tgt := 121) hx hb dX9_takeWord_76 (by decide) ?_
  refine lv_iinc (v := 3) (lv' := [(5, .int 3), (4, .int 0), (3, .int 0), (2, .int 0), (0, .ref tp), (1, .ref (aK 1))]) hx hb dX9_takeWord_121 hl (k := 0) rfl (by decide) (by decide) rfl (fun ls hl => ?_)
  refine lv_goto (tgt := 49) hx hb dX9_takeWord_124 (by decide) ?_
  refine lv_iload hx hb dX9_takeWord_49 (lv_at hl 0 rfl) ?_
  refine lv_aload_n hx hb dX9_takeWord_51 rfl (lv_at hl 5 rfl) ?_
  have hPc := hP.sub (ws' := []) [] rfl
  have hDc := hD.sub (ws' := []) [] (by decide) rfl
  have hKc := hK.sub (tys' := []) [] rfl
  have hFc := va_free (wc := []) hD hS hA [] rfl
  refine va_calli (va_runV (As := []) (rest := [.int 3]) ⟨hx, hb, hml, hown, hts⟩ (s_length l dC dI aK aV 1 (by decide) H.size) (cwV 0 hts (gUV tw_509 tw_510 tw_511 tw_15 tw_512) rfl rfl rfl (by decide +kernel) ⟨(Nat.le_of_ble_eq_true rfl), (Nat.le_of_ble_eq_true rfl)⟩) ⟨cPreS.blind, vk_recv hStr.1 (i := 1) (by decide) hS, cPreS.use hPc hKc hDc hE hStr hR hS hFc⟩ rfl rfl hl.1 rfl (lv_room (Nat.le_of_ble_eq_true rfl)) dX9_takeWord_52 ⟨(Nat.le_of_ble_eq_true rfl), (Nat.le_of_ble_eq_true rfl)⟩) hS (fun q _ h => hFc q h) hFc (fun r_17 u t H1 locs ht hvm hw hB hz1 hk1 hS => ?_)
  obtain ⟨hP, hD⟩ := va_join (wr := [(tp, .inr (9, [.ref tb, .int 0, .int 0, .int 0]))]) (w1 := []) hP hD [] [0] rfl rfl (by decide) (by decide) hk1 hFc (va_P_nil _ _ _) (va_D_nil _)
  generalize H1 = H at hP hS ⊢
  have hP : va_P (dC, dI) vwCl [(tp, .inr (9, [.ref tb, .int 0, .int 0, .int 0]))] H := hP
  have hD : va_D A [(tp, .inr (9, [.ref tb, .int 0, .int 0, .int 0]))] := hD
  obtain rfl : r_17 = 5 := hw.trans (by decide)
  refine lv_icmp_ge (tgt := 127) hx hb dX9_takeWord_55 (by decide) (fun c_18 => absurd c_18 (by decide)) (fun c_18 => ?_)
  refine lv_aload_n hx hb dX9_takeWord_58 rfl (lv_at hl 4 rfl) ?_
  refine va_get (D := (dC, dI)) (ci := 9) (v := .int 0) (C := RX9) (T := TX9) (N := 4) hx hb hts iX9 hown hK hP 0 rfl rfl 3 (by decide) (hts _ tw_44) (fun _ h9 => h9) rfl dX9_takeWord_59 ?_
  refine lv_if_ne (tgt := 127) hx hb dX9_takeWord_62 (by decide) (fun c_19 => absurd (by decide) c_19) (fun c_19 => ?_)
  refine lv_aload_n hx hb dX9_takeWord_65 rfl (lv_at hl 5 rfl) ?_
  refine lv_iload hx hb dX9_takeWord_66 (lv_at hl 0 rfl) ?_
  have hPc := hP.sub (ws' := []) [] rfl
  have hDc := hD.sub (ws' := []) [] (by decide) rfl
  have hKc := hK.sub (tys' := []) [] rfl
  have hFc := va_free (wc := []) hD hS hA [] rfl
  refine va_calli (va_runV (As := [.int 3]) (rest := []) ⟨hx, hb, hml, hown, hts⟩ (s_charAt l dC dI aK aV 1 3 (by decide) (by decide) H.size) (cwV 1 hts (gUV tw_519 tw_520 tw_521 tw_15 tw_522) rfl rfl rfl (by decide +kernel) ⟨(Nat.le_of_ble_eq_true rfl), (Nat.le_of_ble_eq_true rfl)⟩) ⟨cPreS.blind, vk_recv hStr.1 (i := 1) (by decide) hS, cPreS.use hPc hKc hDc hE hStr hR hS hFc⟩ rfl rfl hl.1 rfl (lv_room (Nat.le_of_ble_eq_true rfl)) dX9_takeWord_68 ⟨(Nat.le_of_ble_eq_true rfl), (Nat.le_of_ble_eq_true rfl)⟩) hS (fun q _ h => hFc q h) hFc (fun r_20 u t H1 locs ht hvm hw hB hz1 hk1 hS => ?_)
  obtain ⟨hP, hD⟩ := va_join (wr := [(tp, .inr (9, [.ref tb, .int 0, .int 0, .int 0]))]) (w1 := []) hP hD [] [0] rfl rfl (by decide) (by decide) hk1 hFc (va_P_nil _ _ _) (va_D_nil _)
  generalize H1 = H at hP hS ⊢
  have hP : va_P (dC, dI) vwCl [(tp, .inr (9, [.ref tb, .int 0, .int 0, .int 0]))] H := hP
  have hD : va_D A [(tp, .inr (9, [.ref tb, .int 0, .int 0, .int 0]))] := hD
  obtain rfl : r_20 = 101 := hw.trans (by decide)
  refine lv_bipush (v := 32) hx hb dX9_takeWord_71 (by decide) ?_
  refine lv_icmp_eq (tgt := 79) hx hb dX9_takeWord_73 (by decide) (fun c_21 => absurd c_21 (by decide)) (fun c_21 => ?_)
  refine lv_goto (tgt := 121) hx hb dX9_takeWord_76 (by decide) ?_
  refine lv_iinc (v := 4) (lv' := [(5, .int 4), (4, .int 0), (3, .int 0), (2, .int 0), (0, .ref tp), (1, .ref (aK 1))]) hx hb dX9_takeWord_121 hl (k := 0) rfl (by decide) (by decide) rfl (fun ls hl => ?_)
  refine lv_goto (tgt := 49) hx hb dX9_takeWord_124 (by decide) ?_
  refine lv_iload hx hb dX9_takeWord_49 (lv_at hl 0 rfl) ?_
  refine lv_aload_n hx hb dX9_takeWord_51 rfl (lv_at hl 5 rfl) ?_
  have hPc := hP.sub (ws' := []) [] rfl
  have hDc := hD.sub (ws' := []) [] (by decide) rfl
  have hKc := hK.sub (tys' := []) [] rfl
  have hFc := va_free (wc := []) hD hS hA [] rfl
  refine va_calli (va_runV (As := []) (rest := [.int 4]) ⟨hx, hb, hml, hown, hts⟩ (s_length l dC dI aK aV 1 (by decide) H.size) (cwV 0 hts (gUV tw_509 tw_510 tw_511 tw_15 tw_512) rfl rfl rfl (by decide +kernel) ⟨(Nat.le_of_ble_eq_true rfl), (Nat.le_of_ble_eq_true rfl)⟩) ⟨cPreS.blind, vk_recv hStr.1 (i := 1) (by decide) hS, cPreS.use hPc hKc hDc hE hStr hR hS hFc⟩ rfl rfl hl.1 rfl (lv_room (Nat.le_of_ble_eq_true rfl)) dX9_takeWord_52 ⟨(Nat.le_of_ble_eq_true rfl), (Nat.le_of_ble_eq_true rfl)⟩) hS (fun q _ h => hFc q h) hFc (fun r_22 u t H1 locs ht hvm hw hB hz1 hk1 hS => ?_)
  obtain ⟨hP, hD⟩ := va_join (wr := [(tp, .inr (9, [.ref tb, .int 0, .int 0, .int 0]))]) (w1 := []) hP hD [] [0] rfl rfl (by decide) (by decide) hk1 hFc (va_P_nil _ _ _) (va_D_nil _)
  generalize H1 = H at hP hS ⊢
  have hP : va_P (dC, dI) vwCl [(tp, .inr (9, [.ref tb, .int 0, .int 0, .int 0]))] H := hP
  have hD : va_D A [(tp, .inr (9, [.ref tb, .int 0, .int 0, .int 0]))] := hD
  obtain rfl : r_22 = 5 := hw.trans (by decide)
  refine lv_icmp_ge (tgt := 127) hx hb dX9_takeWord_55 (by decide) (fun c_23 => absurd c_23 (by decide)) (fun c_23 => ?_)
  refine lv_aload_n hx hb dX9_takeWord_58 rfl (lv_at hl 4 rfl) ?_
  refine va_get (D := (dC, dI)) (ci := 9) (v := .int 0) (C := RX9) (T := TX9) (N := 4) hx hb hts iX9 hown hK hP 0 rfl rfl 3 (by decide) (hts _ tw_44) (fun _ h9 => h9) rfl dX9_takeWord_59 ?_
  refine lv_if_ne (tgt := 127) hx hb dX9_takeWord_62 (by decide) (fun c_24 => absurd (by decide) c_24) (fun c_24 => ?_)
  refine lv_aload_n hx hb dX9_takeWord_65 rfl (lv_at hl 5 rfl) ?_
  refine lv_iload hx hb dX9_takeWord_66 (lv_at hl 0 rfl) ?_
  have hPc := hP.sub (ws' := []) [] rfl
  have hDc := hD.sub (ws' := []) [] (by decide) rfl
  have hKc := hK.sub (tys' := []) [] rfl
  have hFc := va_free (wc := []) hD hS hA [] rfl
  refine va_calli (va_runV (As := [.int 4]) (rest := []) ⟨hx, hb, hml, hown, hts⟩ (s_charAt l dC dI aK aV 1 4 (by decide) (by decide) H.size) (cwV 1 hts (gUV tw_519 tw_520 tw_521 tw_15 tw_522) rfl rfl rfl (by decide +kernel) ⟨(Nat.le_of_ble_eq_true rfl), (Nat.le_of_ble_eq_true rfl)⟩) ⟨cPreS.blind, vk_recv hStr.1 (i := 1) (by decide) hS, cPreS.use hPc hKc hDc hE hStr hR hS hFc⟩ rfl rfl hl.1 rfl (lv_room (Nat.le_of_ble_eq_true rfl)) dX9_takeWord_68 ⟨(Nat.le_of_ble_eq_true rfl), (Nat.le_of_ble_eq_true rfl)⟩) hS (fun q _ h => hFc q h) hFc (fun r_25 u t H1 locs ht hvm hw hB hz1 hk1 hS => ?_)
  obtain ⟨hP, hD⟩ := va_join (wr := [(tp, .inr (9, [.ref tb, .int 0, .int 0, .int 0]))]) (w1 := []) hP hD [] [0] rfl rfl (by decide) (by decide) hk1 hFc (va_P_nil _ _ _) (va_D_nil _)
  generalize H1 = H at hP hS ⊢
  have hP : va_P (dC, dI) vwCl [(tp, .inr (9, [.ref tb, .int 0, .int 0, .int 0]))] H := hP
  have hD : va_D A [(tp, .inr (9, [.ref tb, .int 0, .int 0, .int 0]))] := hD
  obtain rfl : r_25 = 32 := hw.trans (by decide)
  refine lv_bipush (v := 32) hx hb dX9_takeWord_71 (by decide) ?_
  refine lv_icmp_eq (tgt := 79) hx hb dX9_takeWord_73 (by decide) (fun c_26 => ?_) (fun c_26 => absurd (by decide) c_26)
  refine lv_iload hx hb dX9_takeWord_79 (lv_at hl 0 rfl) ?_
  refine lv_iload hx hb dX9_takeWord_81 (lv_at hl 1 rfl) ?_
  refine lv_isub hx hb dX9_takeWord_83 ?_
  refine lv_topi (fun x_27 ex_27 => ?_)
  obtain rfl : x_27 = 4 := ex_27.trans (by decide)
  refine lv_iload_n hx hb dX9_takeWord_84 rfl (lv_at hl 3 rfl) ?_
  refine lv_aload_n hx hb dX9_takeWord_85 rfl (lv_at hl 4 rfl) ?_
  refine va_get (D := (dC, dI)) (ci := 9) (v := .int 0) (C := RX9) (T := TX9) (N := 4) hx hb hts iX9 hown hK hP 0 rfl rfl 2 (by decide) (hts _ tw_41) (fun _ h9 => h9) rfl dX9_takeWord_86 ?_
  refine lv_isub hx hb dX9_takeWord_89 ?_
  refine lv_topi (fun x_28 ex_28 => ?_)
  obtain rfl : x_28 = 0 := ex_28.trans (by decide)
  refine lv_icmp_ne (tgt := 112) hx hb dX9_takeWord_90 (by decide) (fun c_29 => ?_) (fun c_29 => absurd c_29 (by decide))
  refine lv_iinc (v := 1) (lv' := [(3, .int 1), (5, .int 4), (4, .int 0), (2, .int 0), (0, .ref tp), (1, .ref (aK 1))]) hx hb dX9_takeWord_112 hl (k := 2) rfl (by decide) (by decide) rfl (fun ls hl => ?_)
  refine lv_iload hx hb dX9_takeWord_115 (lv_at hl 1 rfl) ?_
  refine lv_iconst (v := 1) hx hb dX9_takeWord_117 (by decide) ?_
  refine lv_iadd hx hb dX9_takeWord_118 ?_
  refine lv_topi (fun x_30 ex_30 => ?_)
  obtain rfl : x_30 = 5 := ex_30.trans (by decide)
  refine lv_istore (lv' := [(4, .int 5), (3, .int 1), (5, .int 4), (2, .int 0), (0, .ref tp), (1, .ref (aK 1))]) hx hb dX9_takeWord_119 hl (by decide) rfl (fun ls hl => ?_)
  refine lv_iinc (v := 5) (lv' := [(5, .int 5), (4, .int 5), (3, .int 1), (2, .int 0), (0, .ref tp), (1, .ref (aK 1))]) hx hb dX9_takeWord_121 hl (k := 2) rfl (by decide) (by decide) rfl (fun ls hl => ?_)
  refine lv_goto (tgt := 49) hx hb dX9_takeWord_124 (by decide) ?_
  refine lv_iload hx hb dX9_takeWord_49 (lv_at hl 0 rfl) ?_
  refine lv_aload_n hx hb dX9_takeWord_51 rfl (lv_at hl 5 rfl) ?_
  have hPc := hP.sub (ws' := []) [] rfl
  have hDc := hD.sub (ws' := []) [] (by decide) rfl
  have hKc := hK.sub (tys' := []) [] rfl
  have hFc := va_free (wc := []) hD hS hA [] rfl
  refine va_calli (va_runV (As := []) (rest := [.int 5]) ⟨hx, hb, hml, hown, hts⟩ (s_length l dC dI aK aV 1 (by decide) H.size) (cwV 0 hts (gUV tw_509 tw_510 tw_511 tw_15 tw_512) rfl rfl rfl (by decide +kernel) ⟨(Nat.le_of_ble_eq_true rfl), (Nat.le_of_ble_eq_true rfl)⟩) ⟨cPreS.blind, vk_recv hStr.1 (i := 1) (by decide) hS, cPreS.use hPc hKc hDc hE hStr hR hS hFc⟩ rfl rfl hl.1 rfl (lv_room (Nat.le_of_ble_eq_true rfl)) dX9_takeWord_52 ⟨(Nat.le_of_ble_eq_true rfl), (Nat.le_of_ble_eq_true rfl)⟩) hS (fun q _ h => hFc q h) hFc (fun r_31 u t H1 locs ht hvm hw hB hz1 hk1 hS => ?_)
  obtain ⟨hP, hD⟩ := va_join (wr := [(tp, .inr (9, [.ref tb, .int 0, .int 0, .int 0]))]) (w1 := []) hP hD [] [0] rfl rfl (by decide) (by decide) hk1 hFc (va_P_nil _ _ _) (va_D_nil _)
  generalize H1 = H at hP hS ⊢
  have hP : va_P (dC, dI) vwCl [(tp, .inr (9, [.ref tb, .int 0, .int 0, .int 0]))] H := hP
  have hD : va_D A [(tp, .inr (9, [.ref tb, .int 0, .int 0, .int 0]))] := hD
  obtain rfl : r_31 = 5 := hw.trans (by decide)
  refine lv_icmp_ge (tgt := 127) hx hb dX9_takeWord_55 (by decide) (fun c_32 => ?_) (fun c_32 => absurd (by decide) c_32)
  refine lv_iconst (v := (-1)) hx hb dX9_takeWord_127 (by decide) ?_
  have hP9 := hP.sub (ws' := [(tp, .inr (9, [.ref tb, .int 0, .int 0, .int 0]))]) [0] rfl
  have hD9 := hD.sub (ws' := [(tp, .inr (9, [.ref tb, .int 0, .int 0, .int 0]))]) [0] (by decide) rfl
  have hK9 := hK.sub (tys' := []) [] rfl
  refine W.widen (k := 0) (n := 0) (Nat.le_of_ble_eq_true rfl) (Nat.le_of_ble_eq_true rfl) ?_
  exact W.iret (v := (-1)) hx hb hr (fun t ht hW => ⟨⟨(-1), (), rfl, rfl, ⟨by rw [ht]; exact hP9, va_K.moved hW.alike hK9, hD9⟩⟩, hS.F ht⟩) hS.2.2 dX9_takeWord_128
set_option maxHeartbeats 4000000 in
set_option maxRecDepth 100000 in
theorem c_takeWord_2 (l : Launch) (dC : Nat → ClassId) (dI : Nat → Nat → Nat) (aK aV : Nat → Nat) (tp : Nat) (tb : Nat) (sz : Nat) : Met l yX9_takeWord (ws_u yX9_takeWord cX9_takeWord 6 (some .int)) ({ frames := 2, cells := 0, slots := 0, locals := 40 }) (va_Pc [.ref tp, .ref (aK 2)] (cPreS (dC, dI) aK aV [] [(tp, .inr (9, [.ref tb, .int 0, .int 0, .int 1]))] sz)) (va_Qi (fun (r : Int32) (_ : Unit) => r = (-1)) (fun _ t => cPost (dC, dI) [] [(tp, .inr (9, [.ref tb, .int 0, .int 0, .int 1]))] (va_A [(tp, .inr (9, [.ref tb, .int 0, .int 0, .int 1]))] sz) t) (va_A [(tp, .inr (9, [.ref tb, .int 0, .int 0, .int 1]))] sz)) 0 0 (va_A [(tp, .inr (9, [.ref tb, .int 0, .int 0, .int 1]))] sz) := by
  refine Met.ofW (cc := cX9_takeWord) (maxL := 6) (ret := (some .int)) (by decide) rfl ?_
  intro p e s m args below meth c s₁ B hml hv
  obtain ⟨rfl, ⟨hsz, hP, hK, hD0, hE⟩, hStr, hR⟩ := hv
  have hx := B.exec
  have hb := B.bytes
  have hr := B.returns
  have hts0 := atoms_spec (ws := ws_u yX9_takeWord cX9_takeWord 6 (some .int)) B.pre
  have hts : ∀ w ∈ gT, w.before _ s = true := fun w h => hts0 w (List.mem_cons_of_mem _ h)
  have hown : s.vm.findClass RX9 = some m.cls := findClass_of_methodNamed B.named
  have hlocks := B.notSynchronized
  subst hsz
  have hD := hD0.self (sz := s.heap.size)
  generalize hAe : va_A [(tp, .inr (9, [.ref tb, .int 0, .int 0, .int 1]))] s.heap.size = A at hD hStr ⊢
  have hA : ∀ q : Nat, s.heap.size ≤ q → A q := fun q h => by rw [← hAe]; exact Or.inr h
  have hS : va_S A s.heap s.heap [] := va_S.rf
  have hl := lv_entry ([.ref tp, .ref (aK 2)]) (n := 6) (Nat.le_of_ble_eq_true rfl)
  rw [lg_entry_eq]
  generalize (lg_sl ([.ref tp, .ref (aK 2)]) ++ List.replicate (6 - (lg_sl ([.ref tp, .ref (aK 2)])).length) Slot.unset).toArray = ls at hl ⊢
  have hl : lv_has ls 6 [(0, .ref tp), (1, .ref (aK 2))] := hl
  have hP : va_P (dC, dI) vwCl [(tp, .inr (9, [.ref tb, .int 0, .int 0, .int 1]))] s.heap := hP
  try clear hAe
  refine lv_aload_n hx hb dX9_takeWord_0 rfl (lv_at hl 0 rfl) ?_
  refine va_get (D := (dC, dI)) (ci := 9) (v := .int 0) (C := RX9) (T := TX9) (N := 4) hx hb hts iX9 hown hK hP 0 rfl rfl 2 (by decide) (hts _ tw_41) (fun _ h9 => h9) rfl dX9_takeWord_1 ?_
  refine lv_istore_n (lv' := [(2, .int 0), (0, .ref tp), (1, .ref (aK 2))]) hx hb dX9_takeWord_4 rfl hl (by decide) rfl (fun ls hl => ?_)
  refine lv_iload_n hx hb dX9_takeWord_5 rfl (lv_at hl 0 rfl) ?_
  refine lv_aload_n hx hb dX9_takeWord_6 rfl (lv_at hl 1 rfl) ?_
  refine va_get (D := (dC, dI)) (ci := 9) (v := .int 0) (C := RX9) (T := TX9) (N := 4) hx hb hts iX9 hown hK hP 0 rfl rfl 1 (by decide) (hts _ tw_37) (fun _ h9 => h9) rfl dX9_takeWord_7 ?_
  refine lv_icmp_ge (tgt := 41) hx hb dX9_takeWord_10 (by decide) (fun c_1 => ?_) (fun c_1 => absurd (by decide) c_1)
  refine lv_iconst (v := 0) hx hb dX9_takeWord_41 (by decide) ?_
  refine lv_istore_n (lv' := [(3, .int 0), (2, .int 0), (0, .ref tp), (1, .ref (aK 2))]) hx hb dX9_takeWord_42 rfl hl (by decide) rfl (fun ls hl => ?_)
  refine lv_iconst (v := 0) hx hb dX9_takeWord_43 (by decide) ?_
  refine lv_istore (lv' := [(4, .int 0), (3, .int 0), (2, .int 0), (0, .ref tp), (1, .ref (aK 2))]) hx hb dX9_takeWord_44 hl (by decide) rfl (fun ls hl => ?_)
  refine lv_iconst (v := 0) hx hb dX9_takeWord_46 (by decide) ?_
  refine lv_istore (lv' := [(5, .int 0), (4, .int 0), (3, .int 0), (2, .int 0), (0, .ref tp), (1, .ref (aK 2))]) hx hb dX9_takeWord_47 hl (by decide) rfl (fun ls hl => ?_)
  refine lv_iload hx hb dX9_takeWord_49 (lv_at hl 0 rfl) ?_
  refine lv_aload_n hx hb dX9_takeWord_51 rfl (lv_at hl 5 rfl) ?_
  have hPc := hP.sub (ws' := []) [] rfl
  have hDc := hD.sub (ws' := []) [] (by decide) rfl
  have hKc := hK.sub (tys' := []) [] rfl
  have hFc := va_free (wc := []) hD hS hA [] rfl
  refine va_calli (va_runV (As := []) (rest := [.int 0]) ⟨hx, hb, hml, hown, hts⟩ (s_length l dC dI aK aV 2 (by decide) s.heap.size) (cwV 0 hts (gUV tw_509 tw_510 tw_511 tw_15 tw_512) rfl rfl rfl (by decide +kernel) ⟨(Nat.le_of_ble_eq_true rfl), (Nat.le_of_ble_eq_true rfl)⟩) ⟨cPreS.blind, vk_recv hStr.1 (i := 2) (by decide) hS, cPreS.use hPc hKc hDc hE hStr hR hS hFc⟩ rfl rfl hl.1 rfl (lv_room (Nat.le_of_ble_eq_true rfl)) dX9_takeWord_52 ⟨(Nat.le_of_ble_eq_true rfl), (Nat.le_of_ble_eq_true rfl)⟩) hS (fun q _ h => hFc q h) hFc (fun r_2 u t H1 locs ht hvm hw hB hz1 hk1 hS => ?_)
  obtain ⟨hP, hD⟩ := va_join (wr := [(tp, .inr (9, [.ref tb, .int 0, .int 0, .int 1]))]) (w1 := []) hP hD [] [0] rfl rfl (by decide) (by decide) hk1 hFc (va_P_nil _ _ _) (va_D_nil _)
  generalize H1 = H at hP hS ⊢
  have hP : va_P (dC, dI) vwCl [(tp, .inr (9, [.ref tb, .int 0, .int 0, .int 1]))] H := hP
  have hD : va_D A [(tp, .inr (9, [.ref tb, .int 0, .int 0, .int 1]))] := hD
  obtain rfl : r_2 = 57 := hw.trans (by decide)
  refine lv_icmp_ge (tgt := 127) hx hb dX9_takeWord_55 (by decide) (fun c_3 => absurd c_3 (by decide)) (fun c_3 => ?_)
  refine lv_aload_n hx hb dX9_takeWord_58 rfl (lv_at hl 4 rfl) ?_
  refine va_get (D := (dC, dI)) (ci := 9) (v := .int 1) (C := RX9) (T := TX9) (N := 4) hx hb hts iX9 hown hK hP 0 rfl rfl 3 (by decide) (hts _ tw_44) (fun _ h9 => h9) rfl dX9_takeWord_59 ?_
  refine lv_if_ne (tgt := 127) hx hb dX9_takeWord_62 (by decide) (fun c_4 => ?_) (fun c_4 => absurd c_4 (by decide))
  refine lv_iconst (v := (-1)) hx hb dX9_takeWord_127 (by decide) ?_
  have hP9 := hP.sub (ws' := [(tp, .inr (9, [.ref tb, .int 0, .int 0, .int 1]))]) [0] rfl
  have hD9 := hD.sub (ws' := [(tp, .inr (9, [.ref tb, .int 0, .int 0, .int 1]))]) [0] (by decide) rfl
  have hK9 := hK.sub (tys' := []) [] rfl
  refine W.widen (k := 0) (n := 0) (Nat.le_of_ble_eq_true rfl) (Nat.le_of_ble_eq_true rfl) ?_
  exact W.iret (v := (-1)) hx hb hr (fun t ht hW => ⟨⟨(-1), (), rfl, rfl, ⟨by rw [ht]; exact hP9, va_K.moved hW.alike hK9, hD9⟩⟩, hS.F ht⟩) hS.2.2 dX9_takeWord_128
set_option maxHeartbeats 4000000 in
set_option maxRecDepth 100000 in
theorem c_takeWord_3 (l : Launch) (dC : Nat → ClassId) (dI : Nat → Nat → Nat) (aK aV : Nat → Nat) (tp : Nat) (tb : Nat) (sz : Nat) : Met l yX9_takeWord (ws_u yX9_takeWord cX9_takeWord 6 (some .int)) ({ frames := 2, cells := 0, slots := 0, locals := 40 }) (va_Pc [.ref tp, .ref (aK 3)] (cPreS (dC, dI) aK aV [] [(tp, .inr (9, [.ref tb, .int 0, .int 0, .int 1]))] sz)) (va_Qi (fun (r : Int32) (_ : Unit) => r = (-1)) (fun _ t => cPost (dC, dI) [] [(tp, .inr (9, [.ref tb, .int 0, .int 0, .int 1]))] (va_A [(tp, .inr (9, [.ref tb, .int 0, .int 0, .int 1]))] sz) t) (va_A [(tp, .inr (9, [.ref tb, .int 0, .int 0, .int 1]))] sz)) 0 0 (va_A [(tp, .inr (9, [.ref tb, .int 0, .int 0, .int 1]))] sz) := by
  refine Met.ofW (cc := cX9_takeWord) (maxL := 6) (ret := (some .int)) (by decide) rfl ?_
  intro p e s m args below meth c s₁ B hml hv
  obtain ⟨rfl, ⟨hsz, hP, hK, hD0, hE⟩, hStr, hR⟩ := hv
  have hx := B.exec
  have hb := B.bytes
  have hr := B.returns
  have hts0 := atoms_spec (ws := ws_u yX9_takeWord cX9_takeWord 6 (some .int)) B.pre
  have hts : ∀ w ∈ gT, w.before _ s = true := fun w h => hts0 w (List.mem_cons_of_mem _ h)
  have hown : s.vm.findClass RX9 = some m.cls := findClass_of_methodNamed B.named
  have hlocks := B.notSynchronized
  subst hsz
  have hD := hD0.self (sz := s.heap.size)
  generalize hAe : va_A [(tp, .inr (9, [.ref tb, .int 0, .int 0, .int 1]))] s.heap.size = A at hD hStr ⊢
  have hA : ∀ q : Nat, s.heap.size ≤ q → A q := fun q h => by rw [← hAe]; exact Or.inr h
  have hS : va_S A s.heap s.heap [] := va_S.rf
  have hl := lv_entry ([.ref tp, .ref (aK 3)]) (n := 6) (Nat.le_of_ble_eq_true rfl)
  rw [lg_entry_eq]
  generalize (lg_sl ([.ref tp, .ref (aK 3)]) ++ List.replicate (6 - (lg_sl ([.ref tp, .ref (aK 3)])).length) Slot.unset).toArray = ls at hl ⊢
  have hl : lv_has ls 6 [(0, .ref tp), (1, .ref (aK 3))] := hl
  have hP : va_P (dC, dI) vwCl [(tp, .inr (9, [.ref tb, .int 0, .int 0, .int 1]))] s.heap := hP
  try clear hAe
  refine lv_aload_n hx hb dX9_takeWord_0 rfl (lv_at hl 0 rfl) ?_
  refine va_get (D := (dC, dI)) (ci := 9) (v := .int 0) (C := RX9) (T := TX9) (N := 4) hx hb hts iX9 hown hK hP 0 rfl rfl 2 (by decide) (hts _ tw_41) (fun _ h9 => h9) rfl dX9_takeWord_1 ?_
  refine lv_istore_n (lv' := [(2, .int 0), (0, .ref tp), (1, .ref (aK 3))]) hx hb dX9_takeWord_4 rfl hl (by decide) rfl (fun ls hl => ?_)
  refine lv_iload_n hx hb dX9_takeWord_5 rfl (lv_at hl 0 rfl) ?_
  refine lv_aload_n hx hb dX9_takeWord_6 rfl (lv_at hl 1 rfl) ?_
  refine va_get (D := (dC, dI)) (ci := 9) (v := .int 0) (C := RX9) (T := TX9) (N := 4) hx hb hts iX9 hown hK hP 0 rfl rfl 1 (by decide) (hts _ tw_37) (fun _ h9 => h9) rfl dX9_takeWord_7 ?_
  refine lv_icmp_ge (tgt := 41) hx hb dX9_takeWord_10 (by decide) (fun c_1 => ?_) (fun c_1 => absurd (by decide) c_1)
  refine lv_iconst (v := 0) hx hb dX9_takeWord_41 (by decide) ?_
  refine lv_istore_n (lv' := [(3, .int 0), (2, .int 0), (0, .ref tp), (1, .ref (aK 3))]) hx hb dX9_takeWord_42 rfl hl (by decide) rfl (fun ls hl => ?_)
  refine lv_iconst (v := 0) hx hb dX9_takeWord_43 (by decide) ?_
  refine lv_istore (lv' := [(4, .int 0), (3, .int 0), (2, .int 0), (0, .ref tp), (1, .ref (aK 3))]) hx hb dX9_takeWord_44 hl (by decide) rfl (fun ls hl => ?_)
  refine lv_iconst (v := 0) hx hb dX9_takeWord_46 (by decide) ?_
  refine lv_istore (lv' := [(5, .int 0), (4, .int 0), (3, .int 0), (2, .int 0), (0, .ref tp), (1, .ref (aK 3))]) hx hb dX9_takeWord_47 hl (by decide) rfl (fun ls hl => ?_)
  refine lv_iload hx hb dX9_takeWord_49 (lv_at hl 0 rfl) ?_
  refine lv_aload_n hx hb dX9_takeWord_51 rfl (lv_at hl 5 rfl) ?_
  have hPc := hP.sub (ws' := []) [] rfl
  have hDc := hD.sub (ws' := []) [] (by decide) rfl
  have hKc := hK.sub (tys' := []) [] rfl
  have hFc := va_free (wc := []) hD hS hA [] rfl
  refine va_calli (va_runV (As := []) (rest := [.int 0]) ⟨hx, hb, hml, hown, hts⟩ (s_length l dC dI aK aV 3 (by decide) s.heap.size) (cwV 0 hts (gUV tw_509 tw_510 tw_511 tw_15 tw_512) rfl rfl rfl (by decide +kernel) ⟨(Nat.le_of_ble_eq_true rfl), (Nat.le_of_ble_eq_true rfl)⟩) ⟨cPreS.blind, vk_recv hStr.1 (i := 3) (by decide) hS, cPreS.use hPc hKc hDc hE hStr hR hS hFc⟩ rfl rfl hl.1 rfl (lv_room (Nat.le_of_ble_eq_true rfl)) dX9_takeWord_52 ⟨(Nat.le_of_ble_eq_true rfl), (Nat.le_of_ble_eq_true rfl)⟩) hS (fun q _ h => hFc q h) hFc (fun r_2 u t H1 locs ht hvm hw hB hz1 hk1 hS => ?_)
  obtain ⟨hP, hD⟩ := va_join (wr := [(tp, .inr (9, [.ref tb, .int 0, .int 0, .int 1]))]) (w1 := []) hP hD [] [0] rfl rfl (by decide) (by decide) hk1 hFc (va_P_nil _ _ _) (va_D_nil _)
  generalize H1 = H at hP hS ⊢
  have hP : va_P (dC, dI) vwCl [(tp, .inr (9, [.ref tb, .int 0, .int 0, .int 1]))] H := hP
  have hD : va_D A [(tp, .inr (9, [.ref tb, .int 0, .int 0, .int 1]))] := hD
  obtain rfl : r_2 = 3 := hw.trans (by decide)
  refine lv_icmp_ge (tgt := 127) hx hb dX9_takeWord_55 (by decide) (fun c_3 => absurd c_3 (by decide)) (fun c_3 => ?_)
  refine lv_aload_n hx hb dX9_takeWord_58 rfl (lv_at hl 4 rfl) ?_
  refine va_get (D := (dC, dI)) (ci := 9) (v := .int 1) (C := RX9) (T := TX9) (N := 4) hx hb hts iX9 hown hK hP 0 rfl rfl 3 (by decide) (hts _ tw_44) (fun _ h9 => h9) rfl dX9_takeWord_59 ?_
  refine lv_if_ne (tgt := 127) hx hb dX9_takeWord_62 (by decide) (fun c_4 => ?_) (fun c_4 => absurd c_4 (by decide))
  refine lv_iconst (v := (-1)) hx hb dX9_takeWord_127 (by decide) ?_
  have hP9 := hP.sub (ws' := [(tp, .inr (9, [.ref tb, .int 0, .int 0, .int 1]))]) [0] rfl
  have hD9 := hD.sub (ws' := [(tp, .inr (9, [.ref tb, .int 0, .int 0, .int 1]))]) [0] (by decide) rfl
  have hK9 := hK.sub (tys' := []) [] rfl
  refine W.widen (k := 0) (n := 0) (Nat.le_of_ble_eq_true rfl) (Nat.le_of_ble_eq_true rfl) ?_
  exact W.iret (v := (-1)) hx hb hr (fun t ht hW => ⟨⟨(-1), (), rfl, rfl, ⟨by rw [ht]; exact hP9, va_K.moved hW.alike hK9, hD9⟩⟩, hS.F ht⟩) hS.2.2 dX9_takeWord_128
set_option maxHeartbeats 4000000 in
set_option maxRecDepth 100000 in
theorem c_readClause (l : Launch) (dC : Nat → ClassId) (dI : Nat → Nat → Nat) (aK aV : Nat → Nat) (cr : Nat) (sc : Nat) (tp : Nat) (tb : Nat) (sz : Nat) : Met l yX1_readClause (ws_u yX1_readClause cX1_readClause 5 none) ({ frames := 5, cells := 0, slots := 0, locals := 110 }) (va_Pc [.ref cr, .ref tp, .int 0] (cPreS (dC, dI) aK aV [] [(cr, .inr (1, [.ref sc])), (tp, .inr (9, [.ref tb, .int 0, .int 0, .int 0]))] sz)) (va_Qv (fun _ : Unit => True) (fun _ t => cPost (dC, dI) [] [(cr, .inr (1, [.ref sc])), (tp, .inr (9, [.ref tb, .int 0, .int 0, .int 1]))] (va_A [(cr, .inr (1, [.ref sc])), (tp, .inr (9, [.ref tb, .int 0, .int 0, .int 0]))] sz) t) (va_A [(cr, .inr (1, [.ref sc])), (tp, .inr (9, [.ref tb, .int 0, .int 0, .int 0]))] sz)) 0 0 (va_A [(cr, .inr (1, [.ref sc])), (tp, .inr (9, [.ref tb, .int 0, .int 0, .int 0]))] sz) := by
  refine Met.ofW (cc := cX1_readClause) (maxL := 5) (ret := none) (by decide) rfl ?_
  intro p e s m args below meth c s₁ B hml hv
  obtain ⟨rfl, ⟨hsz, hP, hK, hD0, hE⟩, hStr, hR⟩ := hv
  have hx := B.exec
  have hb := B.bytes
  have hr := B.returns
  have hts0 := atoms_spec (ws := ws_u yX1_readClause cX1_readClause 5 none) B.pre
  have hts : ∀ w ∈ gT, w.before _ s = true := fun w h => hts0 w (List.mem_cons_of_mem _ h)
  have hown : s.vm.findClass RX1 = some m.cls := findClass_of_methodNamed B.named
  have hlocks := B.notSynchronized
  subst hsz
  have hD := hD0.self (sz := s.heap.size)
  generalize hAe : va_A [(cr, .inr (1, [.ref sc])), (tp, .inr (9, [.ref tb, .int 0, .int 0, .int 0]))] s.heap.size = A at hD hStr ⊢
  have hA : ∀ q : Nat, s.heap.size ≤ q → A q := fun q h => by rw [← hAe]; exact Or.inr h
  have hS : va_S A s.heap s.heap [] := va_S.rf
  have hl := lv_entry ([.ref cr, .ref tp, .int 0]) (n := 5) (Nat.le_of_ble_eq_true rfl)
  rw [lg_entry_eq]
  generalize (lg_sl ([.ref cr, .ref tp, .int 0]) ++ List.replicate (5 - (lg_sl ([.ref cr, .ref tp, .int 0])).length) Slot.unset).toArray = ls at hl ⊢
  have hl : lv_has ls 5 [(0, .ref cr), (1, .ref tp), (2, .int 0)] := hl
  have hP : va_P (dC, dI) vwCl [(cr, .inr (1, [.ref sc])), (tp, .inr (9, [.ref tb, .int 0, .int 0, .int 0]))] s.heap := hP
  try clear hAe
  refine lv_aload_n hx hb dX1_readClause_0 rfl (lv_at hl 1 rfl) ?_
  refine va_get (D := (dC, dI)) (ci := 9) (v := .int 0) (C := RX9) (T := TX9) (N := 4) hx hb hts iX9 hown hK hP 1 rfl rfl 2 (by decide) (hts _ tw_40) (fun _ h9 => h9) rfl dX1_readClause_1 ?_
  refine lv_istore_n (lv' := [(3, .int 0), (0, .ref cr), (1, .ref tp), (2, .int 0)]) hx hb dX1_readClause_4 rfl hl (by decide) rfl (fun ls hl => ?_)
  refine lv_aload_n hx hb dX1_readClause_5 rfl (lv_at hl 2 rfl) ?_
  refine va_ldcS hx hb hown hR.1 dX1_readClause_6 ?_
  have hPc := hP.sub (ws' := [(tp, .inr (9, [.ref tb, .int 0, .int 0, .int 0]))]) [1] rfl
  have hDc := hD.sub (ws' := [(tp, .inr (9, [.ref tb, .int 0, .int 0, .int 0]))]) [1] (by decide) rfl
  have hKc := hK.sub (tys' := []) [] rfl
  have hFc := va_free (wc := [(tp, .inr (9, [.ref tb, .int 0, .int 0, .int 0]))]) hD hS hA [1] rfl
  refine va_calli (va_runV (As := [.ref (aK 0)]) (rest := []) ⟨hx, hb, hml, hown, hts⟩ (c_takeWord_0 l dC dI aK aV tp tb  s.heap.size) (cwV 1 hts (gUV tw_505 tw_506 tw_507 tw_2 tw_508) rfl rfl rfl (by decide +kernel) ⟨(Nat.le_of_ble_eq_true rfl), (Nat.le_of_ble_eq_true rfl)⟩) ⟨cPreS.blind, va_recv hKc hPc (ci := 9) (q0 := 0) rfl rfl, cPreS.use hPc hKc hDc hE hStr hR hS hFc⟩ rfl rfl hl.1 rfl (lv_room (Nat.le_of_ble_eq_true rfl)) dX1_readClause_8 ⟨(Nat.le_of_ble_eq_true rfl), (Nat.le_of_ble_eq_true rfl)⟩) hS (fun q _ h => hFc q h) hFc (fun r_1 u t H1 locs ht hvm hw hB hz1 hk1 hS => ?_)
  obtain ⟨hP1, hK1, hD1⟩ := hB
  rw [ht] at hP1
  obtain ⟨hP, hD⟩ := va_join (wr := [(cr, .inr (1, [.ref sc]))]) (w1 := [(tp, .inr (9, [.ref tb, .int 0, .int 0, .int 0]))]) hP hD [1] [0] rfl rfl (by decide) (by decide) hk1 hFc hP1 hD1
  generalize H1 = H at hP hS ⊢
  have hP : va_P (dC, dI) vwCl [(cr, .inr (1, [.ref sc])), (tp, .inr (9, [.ref tb, .int 0, .int 0, .int 0]))] H := hP
  have hD : va_D A [(cr, .inr (1, [.ref sc])), (tp, .inr (9, [.ref tb, .int 0, .int 0, .int 0]))] := hD
  obtain rfl : r_1 = (-1) := hw
  refine lv_istore (lv' := [(4, .int (-1)), (3, .int 0), (0, .ref cr), (1, .ref tp), (2, .int 0)]) hx hb dX1_readClause_11 hl (by decide) rfl (fun ls hl => ?_)
  refine lv_iload hx hb dX1_readClause_13 (lv_at hl 0 rfl) ?_
  refine lv_iconst (v := (-1)) hx hb dX1_readClause_15 (by decide) ?_
  refine lv_icmp_ne (tgt := 28) hx hb dX1_readClause_16 (by decide) (fun c_2 => absurd (by decide) c_2) (fun c_2 => ?_)
  refine lv_aload_n hx hb dX1_readClause_19 rfl (lv_at hl 3 rfl) ?_
  refine lv_iload_n hx hb dX1_readClause_20 rfl (lv_at hl 1 rfl) ?_
  refine lv_iconst (v := 0) hx hb dX1_readClause_21 (by decide) ?_
  have hPc := hP.sub (ws' := [(tp, .inr (9, [.ref tb, .int 0, .int 0, .int 0]))]) [1] rfl
  have hDc := hD.sub (ws' := [(tp, .inr (9, [.ref tb, .int 0, .int 0, .int 0]))]) [1] (by decide) rfl
  have hKc := hK.sub (tys' := []) [] rfl
  have hFc := va_free (wc := [(tp, .inr (9, [.ref tb, .int 0, .int 0, .int 0]))]) hD hS hA [1] rfl
  refine va_callv (va_runV (As := [.int 0, .int 0]) (rest := []) ⟨hx, hb, hml, hown, hts⟩ (c_fail_0 l dC dI tp tb  H.size) (cwV 2 hts (gUV tw_561 tw_562 tw_563 tw_2 tw_564) rfl rfl rfl (by decide +kernel) ⟨(Nat.le_of_ble_eq_true rfl), (Nat.le_of_ble_eq_true rfl)⟩) ⟨cPre.blind, va_recv hKc hPc (ci := 9) (q0 := 0) rfl rfl, cPre.use hPc hKc hDc hE⟩ rfl rfl hl.1 rfl (lv_room (Nat.le_of_ble_eq_true rfl)) dX1_readClause_22 ⟨(Nat.le_of_ble_eq_true rfl), (Nat.le_of_ble_eq_true rfl)⟩) hS (fun q _ h => hFc q h) hFc (fun u t H1 locs ht hvm hw hB hz1 hk1 hS => ?_)
  obtain ⟨hP1, hK1, hD1⟩ := hB
  rw [ht] at hP1
  obtain ⟨hP, hD⟩ := va_join (wr := [(cr, .inr (1, [.ref sc]))]) (w1 := [(tp, .inr (9, [.ref tb, .int 0, .int 0, .int 1]))]) hP hD [1] [0] rfl rfl (by decide) (by decide) hk1 hFc hP1 hD1
  generalize H1 = H at hP hS ⊢
  have hP : va_P (dC, dI) vwCl [(cr, .inr (1, [.ref sc])), (tp, .inr (9, [.ref tb, .int 0, .int 0, .int 1]))] H := hP
  have hD : va_D A [(cr, .inr (1, [.ref sc])), (tp, .inr (9, [.ref tb, .int 0, .int 0, .int 1]))] := hD
  refine lv_goto (tgt := 81) hx hb dX1_readClause_25 (by decide) ?_
  have hP9 := hP.sub (ws' := [(cr, .inr (1, [.ref sc])), (tp, .inr (9, [.ref tb, .int 0, .int 0, .int 1]))]) [0, 1] rfl
  have hD9 := hD.sub (ws' := [(cr, .inr (1, [.ref sc])), (tp, .inr (9, [.ref tb, .int 0, .int 0, .int 1]))]) [0, 1] (by decide) rfl
  have hK9 := hK.sub (tys' := []) [] rfl
  refine W.widen (k := 0) (n := 0) (Nat.le_of_ble_eq_true rfl) (Nat.le_of_ble_eq_true rfl) ?_
  exact W.vret hx hb hr (fun t ht hW => ⟨⟨(), rfl, trivial, ⟨by rw [ht]; exact hP9, va_K.moved hW.alike hK9, hD9⟩⟩, hS.F ht⟩) hS.2.2 dX1_readClause_81
set_option maxHeartbeats 4000000 in
set_option maxRecDepth 100000 in
theorem c_read (l : Launch) (dC : Nat → ClassId) (dI : Nat → Nat → Nat) (aK aV : Nat → Nat) (cr : Nat) (sc : Nat) (sc0 : Nat) (sc1 : Nat) (sc2 : Nat) (sc3 : Nat) (sc4 : Nat) (sc5 : Nat) (sc6 : Nat) (sc7 : Nat) (sc8 : Nat) (sc9 : Nat) (sck3 : ClassId) (sck8 : ClassId) (sck9 : ClassId) (tp : Nat) (tb : Nat) (sz : Nat) : Met l yX1_read (ws_u yX1_read cX1_read 3 (some (.object "BoyBishop$Choir"))) ({ frames := 6, cells := 0, slots := 0, locals := 134 }) (va_Pc [.ref cr, .ref tp] (cPreS (dC, dI) aK aV [(sck3, .int), (sck8, .int), (sck9, .boolean)] [(cr, .inr (1, [.ref sc])), (sc, .inr (0, [.int 0, .int 0, .int 0, .int 0, .int 0, .int 0, .ref sc0, .ref sc1, .ref sc2, .ref sc3, .ref sc4, .ref sc5, .ref sc6, .ref sc7, .ref sc8, .ref sc9])), (sc3, .inl (sck3, 36, .inl (fun _ => 0))), (sc8, .inl (sck8, 49, .inl (fun _ => 0))), (sc9, .inl (sck9, 61, .inl (fun _ => 0))), (tp, .inr (9, [.ref tb, .int 0, .int 0, .int 0]))] sz)) (va_Qq (fun (r : Option Nat) (_ : Unit) => r = none) (fun _ t => cPost (dC, dI) [] [(tp, .inr (9, [.ref tb, .int 0, .int 0, .int 1]))] (va_A [(cr, .inr (1, [.ref sc])), (sc, .inr (0, [.int 0, .int 0, .int 0, .int 0, .int 0, .int 0, .ref sc0, .ref sc1, .ref sc2, .ref sc3, .ref sc4, .ref sc5, .ref sc6, .ref sc7, .ref sc8, .ref sc9])), (sc3, .inl (sck3, 36, .inl (fun _ => 0))), (sc8, .inl (sck8, 49, .inl (fun _ => 0))), (sc9, .inl (sck9, 61, .inl (fun _ => 0))), (tp, .inr (9, [.ref tb, .int 0, .int 0, .int 0]))] sz) t) (va_A [(cr, .inr (1, [.ref sc])), (sc, .inr (0, [.int 0, .int 0, .int 0, .int 0, .int 0, .int 0, .ref sc0, .ref sc1, .ref sc2, .ref sc3, .ref sc4, .ref sc5, .ref sc6, .ref sc7, .ref sc8, .ref sc9])), (sc3, .inl (sck3, 36, .inl (fun _ => 0))), (sc8, .inl (sck8, 49, .inl (fun _ => 0))), (sc9, .inl (sck9, 61, .inl (fun _ => 0))), (tp, .inr (9, [.ref tb, .int 0, .int 0, .int 0]))] sz)) 0 0 (va_A [(cr, .inr (1, [.ref sc])), (sc, .inr (0, [.int 0, .int 0, .int 0, .int 0, .int 0, .int 0, .ref sc0, .ref sc1, .ref sc2, .ref sc3, .ref sc4, .ref sc5, .ref sc6, .ref sc7, .ref sc8, .ref sc9])), (sc3, .inl (sck3, 36, .inl (fun _ => 0))), (sc8, .inl (sck8, 49, .inl (fun _ => 0))), (sc9, .inl (sck9, 61, .inl (fun _ => 0))), (tp, .inr (9, [.ref tb, .int 0, .int 0, .int 0]))] sz) := by
  refine Met.ofW (cc := cX1_read) (maxL := 3) (ret := (some (.object "BoyBishop$Choir"))) (by decide) rfl ?_
  intro p e s m args below meth c s₁ B hml hv
  obtain ⟨rfl, ⟨hsz, hP, hK, hD0, hE⟩, hStr, hR⟩ := hv
  have hx := B.exec
  have hb := B.bytes
  have hr := B.returns
  have hts0 := atoms_spec (ws := ws_u yX1_read cX1_read 3 (some (.object "BoyBishop$Choir"))) B.pre
  have hts : ∀ w ∈ gT, w.before _ s = true := fun w h => hts0 w (List.mem_cons_of_mem _ h)
  have hown : s.vm.findClass RX1 = some m.cls := findClass_of_methodNamed B.named
  have hlocks := B.notSynchronized
  subst hsz
  have hD := hD0.self (sz := s.heap.size)
  generalize hAe : va_A [(cr, .inr (1, [.ref sc])), (sc, .inr (0, [.int 0, .int 0, .int 0, .int 0, .int 0, .int 0, .ref sc0, .ref sc1, .ref sc2, .ref sc3, .ref sc4, .ref sc5, .ref sc6, .ref sc7, .ref sc8, .ref sc9])), (sc3, .inl (sck3, 36, .inl (fun _ => 0))), (sc8, .inl (sck8, 49, .inl (fun _ => 0))), (sc9, .inl (sck9, 61, .inl (fun _ => 0))), (tp, .inr (9, [.ref tb, .int 0, .int 0, .int 0]))] s.heap.size = A at hD hStr ⊢
  have hA : ∀ q : Nat, s.heap.size ≤ q → A q := fun q h => by rw [← hAe]; exact Or.inr h
  have hS : va_S A s.heap s.heap [] := va_S.rf
  have hl := lv_entry ([.ref cr, .ref tp]) (n := 3) (Nat.le_of_ble_eq_true rfl)
  rw [lg_entry_eq]
  generalize (lg_sl ([.ref cr, .ref tp]) ++ List.replicate (3 - (lg_sl ([.ref cr, .ref tp])).length) Slot.unset).toArray = ls at hl ⊢
  have hl : lv_has ls 3 [(0, .ref cr), (1, .ref tp)] := hl
  have hP : va_P (dC, dI) vwCl [(cr, .inr (1, [.ref sc])), (sc, .inr (0, [.int 0, .int 0, .int 0, .int 0, .int 0, .int 0, .ref sc0, .ref sc1, .ref sc2, .ref sc3, .ref sc4, .ref sc5, .ref sc6, .ref sc7, .ref sc8, .ref sc9])), (sc3, .inl (sck3, 36, .inl (fun _ => 0))), (sc8, .inl (sck8, 49, .inl (fun _ => 0))), (sc9, .inl (sck9, 61, .inl (fun _ => 0))), (tp, .inr (9, [.ref tb, .int 0, .int 0, .int 0]))] s.heap := hP
  try clear hAe
  refine lv_aload_n hx hb dX1_read_0 rfl (lv_at hl 0 rfl) ?_
  refine va_get (D := (dC, dI)) (ci := 1) (v := .ref sc) (C := RX1) (T := TX1) (N := 1) hx hb hts iX1 hown hK hP 0 rfl rfl 0 (by decide) (hts _ tw_156) (fun _ h9 => h9) rfl dX1_read_1 ?_
  have hPc := hP.sub (ws' := [(sc, .inr (0, [.int 0, .int 0, .int 0, .int 0, .int 0, .int 0, .ref sc0, .ref sc1, .ref sc2, .ref sc3, .ref sc4, .ref sc5, .ref sc6, .ref sc7, .ref sc8, .ref sc9])), (sc3, .inl (sck3, 36, .inl (fun _ => 0))), (sc8, .inl (sck8, 49, .inl (fun _ => 0))), (sc9, .inl (sck9, 61, .inl (fun _ => 0)))]) [1, 2, 3, 4] rfl
  have hDc := hD.sub (ws' := [(sc, .inr (0, [.int 0, .int 0, .int 0, .int 0, .int 0, .int 0, .ref sc0, .ref sc1, .ref sc2, .ref sc3, .ref sc4, .ref sc5, .ref sc6, .ref sc7, .ref sc8, .ref sc9])), (sc3, .inl (sck3, 36, .inl (fun _ => 0))), (sc8, .inl (sck8, 49, .inl (fun _ => 0))), (sc9, .inl (sck9, 61, .inl (fun _ => 0)))]) [1, 2, 3, 4] (by decide) rfl
  have hKc := hK.sub (tys' := [(sck3, .int), (sck8, .int), (sck9, .boolean)]) [0, 1, 2] rfl
  have hFc := va_free (wc := [(sc, .inr (0, [.int 0, .int 0, .int 0, .int 0, .int 0, .int 0, .ref sc0, .ref sc1, .ref sc2, .ref sc3, .ref sc4, .ref sc5, .ref sc6, .ref sc7, .ref sc8, .ref sc9])), (sc3, .inl (sck3, 36, .inl (fun _ => 0))), (sc8, .inl (sck8, 49, .inl (fun _ => 0))), (sc9, .inl (sck9, 61, .inl (fun _ => 0)))]) hD hS hA [1, 2, 3, 4] rfl
  refine va_callv (va_runV (As := []) (rest := []) ⟨hx, hb, hml, hown, hts⟩ (c_clear l dC dI sc sc0 sc1 sc2 sc3 sc4 sc5 sc6 sc7 sc8 sc9 sck3 sck8 sck9  s.heap.size) (cwV 0 hts (gUV tw_484 tw_485 tw_486 tw_4 tw_487) rfl rfl rfl (by decide +kernel) ⟨(Nat.le_of_ble_eq_true rfl), (Nat.le_of_ble_eq_true rfl)⟩) ⟨cPre.blind, va_recv hKc hPc (ci := 0) (q0 := 0) rfl rfl, cPre.use hPc hKc hDc hE⟩ rfl rfl hl.1 rfl (lv_room (Nat.le_of_ble_eq_true rfl)) dX1_read_4 ⟨(Nat.le_of_ble_eq_true rfl), (Nat.le_of_ble_eq_true rfl)⟩) hS (fun q _ h => hFc q h) hFc (fun u t H1 locs ht hvm hw hB hz1 hk1 hS => ?_)
  obtain ⟨hP1, hK1, hD1⟩ := hB
  rw [ht] at hP1
  obtain ⟨hP, hD⟩ := va_join (wr := [(cr, .inr (1, [.ref sc])), (tp, .inr (9, [.ref tb, .int 0, .int 0, .int 0]))]) (w1 := [(sc, .inr (0, [.int 0, .int 0, .int 0, .int 0, .int 0, .int 0, .ref sc0, .ref sc1, .ref sc2, .ref sc3, .ref sc4, .ref sc5, .ref sc6, .ref sc7, .ref sc8, .ref sc9]))]) hP hD [1, 2, 3, 4] [0, 5] rfl rfl (by decide) (by decide) hk1 hFc hP1 hD1
  generalize H1 = H at hP hS ⊢
  have hP : va_P (dC, dI) vwCl [(cr, .inr (1, [.ref sc])), (tp, .inr (9, [.ref tb, .int 0, .int 0, .int 0])), (sc, .inr (0, [.int 0, .int 0, .int 0, .int 0, .int 0, .int 0, .ref sc0, .ref sc1, .ref sc2, .ref sc3, .ref sc4, .ref sc5, .ref sc6, .ref sc7, .ref sc8, .ref sc9]))] H := hP
  have hD : va_D A [(cr, .inr (1, [.ref sc])), (tp, .inr (9, [.ref tb, .int 0, .int 0, .int 0])), (sc, .inr (0, [.int 0, .int 0, .int 0, .int 0, .int 0, .int 0, .ref sc0, .ref sc1, .ref sc2, .ref sc3, .ref sc4, .ref sc5, .ref sc6, .ref sc7, .ref sc8, .ref sc9]))] := hD
  refine lv_aload_n hx hb dX1_read_7 rfl (lv_at hl 1 rfl) ?_
  have hPc := hP.sub (ws' := [(tp, .inr (9, [.ref tb, .int 0, .int 0, .int 0]))]) [1] rfl
  have hDc := hD.sub (ws' := [(tp, .inr (9, [.ref tb, .int 0, .int 0, .int 0]))]) [1] (by decide) rfl
  have hKc := hK.sub (tys' := []) [] rfl
  have hFc := va_free (wc := [(tp, .inr (9, [.ref tb, .int 0, .int 0, .int 0]))]) hD hS hA [1] rfl
  refine va_callv (va_runV (As := []) (rest := []) ⟨hx, hb, hml, hown, hts⟩ (c_startReading l dC dI tp tb  H.size) (cwV 0 hts (gUV tw_492 tw_493 tw_494 tw_2 tw_495) rfl rfl rfl (by decide +kernel) ⟨(Nat.le_of_ble_eq_true rfl), (Nat.le_of_ble_eq_true rfl)⟩) ⟨cPre.blind, va_recv hKc hPc (ci := 9) (q0 := 0) rfl rfl, cPre.use hPc hKc hDc hE⟩ rfl rfl hl.1 rfl (lv_room (Nat.le_of_ble_eq_true rfl)) dX1_read_8 ⟨(Nat.le_of_ble_eq_true rfl), (Nat.le_of_ble_eq_true rfl)⟩) hS (fun q _ h => hFc q h) hFc (fun u t H1 locs ht hvm hw hB hz1 hk1 hS => ?_)
  obtain ⟨hP1, hK1, hD1⟩ := hB
  rw [ht] at hP1
  obtain ⟨hP, hD⟩ := va_join (wr := [(cr, .inr (1, [.ref sc])), (sc, .inr (0, [.int 0, .int 0, .int 0, .int 0, .int 0, .int 0, .ref sc0, .ref sc1, .ref sc2, .ref sc3, .ref sc4, .ref sc5, .ref sc6, .ref sc7, .ref sc8, .ref sc9]))]) (w1 := [(tp, .inr (9, [.ref tb, .int 0, .int 0, .int 0]))]) hP hD [1] [0, 2] rfl rfl (by decide) (by decide) hk1 hFc hP1 hD1
  generalize H1 = H at hP hS ⊢
  have hP : va_P (dC, dI) vwCl [(cr, .inr (1, [.ref sc])), (sc, .inr (0, [.int 0, .int 0, .int 0, .int 0, .int 0, .int 0, .ref sc0, .ref sc1, .ref sc2, .ref sc3, .ref sc4, .ref sc5, .ref sc6, .ref sc7, .ref sc8, .ref sc9])), (tp, .inr (9, [.ref tb, .int 0, .int 0, .int 0]))] H := hP
  have hD : va_D A [(cr, .inr (1, [.ref sc])), (sc, .inr (0, [.int 0, .int 0, .int 0, .int 0, .int 0, .int 0, .ref sc0, .ref sc1, .ref sc2, .ref sc3, .ref sc4, .ref sc5, .ref sc6, .ref sc7, .ref sc8, .ref sc9])), (tp, .inr (9, [.ref tb, .int 0, .int 0, .int 0]))] := hD
  refine lv_iconst (v := 0) hx hb dX1_read_11 (by decide) ?_
  refine lv_istore_n (lv' := [(2, .int 0), (0, .ref cr), (1, .ref tp)]) hx hb dX1_read_12 rfl hl (by decide) rfl (fun ls hl => ?_)
  refine lv_iload_n hx hb dX1_read_13 rfl (lv_at hl 0 rfl) ?_
  refine lv_bipush (v := 40) hx hb dX1_read_14 (by decide) ?_
  refine lv_icmp_gt (tgt := 66) hx hb dX1_read_16 (by decide) (fun c_3 => absurd c_3 (by decide)) (fun c_3 => ?_)
  refine lv_aload_n hx hb dX1_read_19 rfl (lv_at hl 1 rfl) ?_
  refine lv_aload_n hx hb dX1_read_20 rfl (lv_at hl 2 rfl) ?_
  refine lv_iload_n hx hb dX1_read_21 rfl (lv_at hl 0 rfl) ?_
  have hPc := hP.sub (ws' := [(cr, .inr (1, [.ref sc])), (tp, .inr (9, [.ref tb, .int 0, .int 0, .int 0]))]) [0, 2] rfl
  have hDc := hD.sub (ws' := [(cr, .inr (1, [.ref sc])), (tp, .inr (9, [.ref tb, .int 0, .int 0, .int 0]))]) [0, 2] (by decide) rfl
  have hKc := hK.sub (tys' := []) [] rfl
  have hFc := va_free (wc := [(cr, .inr (1, [.ref sc])), (tp, .inr (9, [.ref tb, .int 0, .int 0, .int 0]))]) hD hS hA [0, 2] rfl
  refine va_callv (va_runV (As := [.ref tp, .int 0]) (rest := []) ⟨hx, hb, hml, hown, hts⟩ (c_readClause l dC dI aK aV cr sc tp tb  H.size) (cwV 2 hts (gUV tw_500 tw_502 ts_0_1 tw_3 tw_503) rfl rfl rfl (by decide +kernel) ⟨(Nat.le_of_ble_eq_true rfl), (Nat.le_of_ble_eq_true rfl)⟩) ⟨cPreS.blind, va_recv hKc hPc (ci := 1) (q0 := 0) rfl rfl, cPreS.use hPc hKc hDc hE hStr hR hS hFc⟩ rfl rfl hl.1 rfl (lv_room (Nat.le_of_ble_eq_true rfl)) dX1_read_22 ⟨(Nat.le_of_ble_eq_true rfl), (Nat.le_of_ble_eq_true rfl)⟩) hS (fun q _ h => hFc q h) hFc (fun u t H1 locs ht hvm hw hB hz1 hk1 hS => ?_)
  obtain ⟨hP1, hK1, hD1⟩ := hB
  rw [ht] at hP1
  obtain ⟨hP, hD⟩ := va_join (wr := [(sc, .inr (0, [.int 0, .int 0, .int 0, .int 0, .int 0, .int 0, .ref sc0, .ref sc1, .ref sc2, .ref sc3, .ref sc4, .ref sc5, .ref sc6, .ref sc7, .ref sc8, .ref sc9]))]) (w1 := [(cr, .inr (1, [.ref sc])), (tp, .inr (9, [.ref tb, .int 0, .int 0, .int 1]))]) hP hD [0, 2] [1] rfl rfl (by decide) (by decide) hk1 hFc hP1 hD1
  generalize H1 = H at hP hS ⊢
  have hP : va_P (dC, dI) vwCl [(sc, .inr (0, [.int 0, .int 0, .int 0, .int 0, .int 0, .int 0, .ref sc0, .ref sc1, .ref sc2, .ref sc3, .ref sc4, .ref sc5, .ref sc6, .ref sc7, .ref sc8, .ref sc9])), (cr, .inr (1, [.ref sc])), (tp, .inr (9, [.ref tb, .int 0, .int 0, .int 1]))] H := hP
  have hD : va_D A [(sc, .inr (0, [.int 0, .int 0, .int 0, .int 0, .int 0, .int 0, .ref sc0, .ref sc1, .ref sc2, .ref sc3, .ref sc4, .ref sc5, .ref sc6, .ref sc7, .ref sc8, .ref sc9])), (cr, .inr (1, [.ref sc])), (tp, .inr (9, [.ref tb, .int 0, .int 0, .int 1]))] := hD
  refine lv_aload_n hx hb dX1_read_25 rfl (lv_at hl 2 rfl) ?_
  refine va_get (D := (dC, dI)) (ci := 9) (v := .int 1) (C := RX9) (T := TX9) (N := 4) hx hb hts iX9 hown hK hP 2 rfl rfl 3 (by decide) (hts _ tw_42) (fun _ h9 => h9) rfl dX1_read_26 ?_
  refine lv_if_ne (tgt := 66) hx hb dX1_read_29 (by decide) (fun c_5 => ?_) (fun c_5 => absurd c_5 (by decide))
  refine lv_aload_n hx hb dX1_read_66 rfl (lv_at hl 2 rfl) ?_
  refine va_get (D := (dC, dI)) (ci := 9) (v := .int 1) (C := RX9) (T := TX9) (N := 4) hx hb hts iX9 hown hK hP 2 rfl rfl 3 (by decide) (hts _ tw_42) (fun _ h9 => h9) rfl dX1_read_67 ?_
  refine lv_if_eq (tgt := 75) hx hb dX1_read_70 (by decide) (fun c_6 => absurd c_6 (by decide)) (fun c_6 => ?_)
  refine lv_null hx hb dX1_read_73 ?_
  have hP9 := hP.sub (ws' := [(tp, .inr (9, [.ref tb, .int 0, .int 0, .int 1]))]) [2] rfl
  have hD9 := hD.sub (ws' := [(tp, .inr (9, [.ref tb, .int 0, .int 0, .int 1]))]) [2] (by decide) rfl
  have hK9 := hK.sub (tys' := []) [] rfl
  refine W.widen (k := 0) (n := 0) (Nat.le_of_ble_eq_true rfl) (Nat.le_of_ble_eq_true rfl) ?_
  exact W.aret (v := .null) hx hb hr (Or.inl ⟨_, rfl⟩) (Or.inl rfl) (fun t ht hW => ⟨⟨none, (), rfl, rfl, ⟨by rw [ht]; exact hP9, va_K.moved hW.alike hK9, hD9⟩⟩, hS.F ht⟩) hS.2.2 dX1_read_74
set_option maxHeartbeats 4000000 in
set_option maxRecDepth 100000 in
theorem c_choir (l : Launch) (dC : Nat → ClassId) (dI : Nat → Nat → Nat) (aK aV : Nat → Nat) (h0 : Nat) (tp : Nat) (cr : Nat) (rr : Nat) (ra : Nat) (nw : Nat) (im : Nat) (ps : Nat) (po : Nat) (dy : Nat) (cn : Nat) (tr : Nat) (sc : Nat) (sc0 : Nat) (sc1 : Nat) (sc2 : Nat) (sc3 : Nat) (sc4 : Nat) (sc5 : Nat) (sc6 : Nat) (sc7 : Nat) (sc8 : Nat) (sc9 : Nat) (sck3 : ClassId) (sck8 : ClassId) (sck9 : ClassId) (tb : Nat) (sz : Nat) : Met l yX11_choir (ws_u yX11_choir cX11_choir 2 (some .int)) ({ frames := 7, cells := 0, slots := 0, locals := 156 }) (va_Pc [.ref h0] (cPreS (dC, dI) aK aV [(sck3, .int), (sck8, .int), (sck9, .boolean)] [(h0, .inr (11, [.ref tp, .ref cr, .ref rr, .ref ra, .int 0, .ref nw, .ref im, .ref ps, .ref po, .ref dy, .ref cn, .ref tr])), (cr, .inr (1, [.ref sc])), (sc, .inr (0, [.int 0, .int 0, .int 0, .int 0, .int 0, .int 0, .ref sc0, .ref sc1, .ref sc2, .ref sc3, .ref sc4, .ref sc5, .ref sc6, .ref sc7, .ref sc8, .ref sc9])), (sc3, .inl (sck3, 36, .inl (fun _ => 0))), (sc8, .inl (sck8, 49, .inl (fun _ => 0))), (sc9, .inl (sck9, 61, .inl (fun _ => 0))), (tp, .inr (9, [.ref tb, .int 0, .int 0, .int 0]))] sz)) (va_Qi (fun (r : Int32) (_ : Unit) => r = (-3)) (fun _ _ => True) (va_A [(h0, .inr (11, [.ref tp, .ref cr, .ref rr, .ref ra, .int 0, .ref nw, .ref im, .ref ps, .ref po, .ref dy, .ref cn, .ref tr])), (cr, .inr (1, [.ref sc])), (sc, .inr (0, [.int 0, .int 0, .int 0, .int 0, .int 0, .int 0, .ref sc0, .ref sc1, .ref sc2, .ref sc3, .ref sc4, .ref sc5, .ref sc6, .ref sc7, .ref sc8, .ref sc9])), (sc3, .inl (sck3, 36, .inl (fun _ => 0))), (sc8, .inl (sck8, 49, .inl (fun _ => 0))), (sc9, .inl (sck9, 61, .inl (fun _ => 0))), (tp, .inr (9, [.ref tb, .int 0, .int 0, .int 0]))] sz)) 0 0 (va_A [(h0, .inr (11, [.ref tp, .ref cr, .ref rr, .ref ra, .int 0, .ref nw, .ref im, .ref ps, .ref po, .ref dy, .ref cn, .ref tr])), (cr, .inr (1, [.ref sc])), (sc, .inr (0, [.int 0, .int 0, .int 0, .int 0, .int 0, .int 0, .ref sc0, .ref sc1, .ref sc2, .ref sc3, .ref sc4, .ref sc5, .ref sc6, .ref sc7, .ref sc8, .ref sc9])), (sc3, .inl (sck3, 36, .inl (fun _ => 0))), (sc8, .inl (sck8, 49, .inl (fun _ => 0))), (sc9, .inl (sck9, 61, .inl (fun _ => 0))), (tp, .inr (9, [.ref tb, .int 0, .int 0, .int 0]))] sz) := by
  refine Met.ofW (cc := cX11_choir) (maxL := 2) (ret := (some .int)) (by decide) rfl ?_
  intro p e s m args below meth c s₁ B hml hv
  obtain ⟨rfl, ⟨hsz, hP, hK, hD0, hE⟩, hStr, hR⟩ := hv
  have hx := B.exec
  have hb := B.bytes
  have hr := B.returns
  have hts0 := atoms_spec (ws := ws_u yX11_choir cX11_choir 2 (some .int)) B.pre
  have hts : ∀ w ∈ gT, w.before _ s = true := fun w h => hts0 w (List.mem_cons_of_mem _ h)
  have hown : s.vm.findClass RX11 = some m.cls := findClass_of_methodNamed B.named
  have hlocks := B.notSynchronized
  subst hsz
  have hD := hD0.self (sz := s.heap.size)
  generalize hAe : va_A [(h0, .inr (11, [.ref tp, .ref cr, .ref rr, .ref ra, .int 0, .ref nw, .ref im, .ref ps, .ref po, .ref dy, .ref cn, .ref tr])), (cr, .inr (1, [.ref sc])), (sc, .inr (0, [.int 0, .int 0, .int 0, .int 0, .int 0, .int 0, .ref sc0, .ref sc1, .ref sc2, .ref sc3, .ref sc4, .ref sc5, .ref sc6, .ref sc7, .ref sc8, .ref sc9])), (sc3, .inl (sck3, 36, .inl (fun _ => 0))), (sc8, .inl (sck8, 49, .inl (fun _ => 0))), (sc9, .inl (sck9, 61, .inl (fun _ => 0))), (tp, .inr (9, [.ref tb, .int 0, .int 0, .int 0]))] s.heap.size = A at hD hStr ⊢
  have hA : ∀ q : Nat, s.heap.size ≤ q → A q := fun q h => by rw [← hAe]; exact Or.inr h
  have hS : va_S A s.heap s.heap [] := va_S.rf
  have hl := lv_entry ([.ref h0]) (n := 2) (Nat.le_of_ble_eq_true rfl)
  rw [lg_entry_eq]
  generalize (lg_sl ([.ref h0]) ++ List.replicate (2 - (lg_sl ([.ref h0])).length) Slot.unset).toArray = ls at hl ⊢
  have hl : lv_has ls 2 [(0, .ref h0)] := hl
  have hP : va_P (dC, dI) vwCl [(h0, .inr (11, [.ref tp, .ref cr, .ref rr, .ref ra, .int 0, .ref nw, .ref im, .ref ps, .ref po, .ref dy, .ref cn, .ref tr])), (cr, .inr (1, [.ref sc])), (sc, .inr (0, [.int 0, .int 0, .int 0, .int 0, .int 0, .int 0, .ref sc0, .ref sc1, .ref sc2, .ref sc3, .ref sc4, .ref sc5, .ref sc6, .ref sc7, .ref sc8, .ref sc9])), (sc3, .inl (sck3, 36, .inl (fun _ => 0))), (sc8, .inl (sck8, 49, .inl (fun _ => 0))), (sc9, .inl (sck9, 61, .inl (fun _ => 0))), (tp, .inr (9, [.ref tb, .int 0, .int 0, .int 0]))] s.heap := hP
  try clear hAe
  refine lv_aload_n hx hb dX11_choir_0 rfl (lv_at hl 0 rfl) ?_
  refine va_get (D := (dC, dI)) (ci := 11) (v := .ref cr) (C := RX11) (T := TX11) (N := 12) hx hb hts iX11 hown hK hP 0 rfl rfl 1 (by decide) (hts _ tw_424) (fun _ h9 => h9) rfl dX11_choir_1 ?_
  refine lv_aload_n hx hb dX11_choir_4 rfl (lv_at hl 0 rfl) ?_
  refine va_get (D := (dC, dI)) (ci := 11) (v := .ref tp) (C := RX11) (T := TX11) (N := 12) hx hb hts iX11 hown hK hP 0 rfl rfl 0 (by decide) (hts _ tw_423) (fun _ h9 => h9) rfl dX11_choir_5 ?_
  have hPc := hP.sub (ws' := [(cr, .inr (1, [.ref sc])), (sc, .inr (0, [.int 0, .int 0, .int 0, .int 0, .int 0, .int 0, .ref sc0, .ref sc1, .ref sc2, .ref sc3, .ref sc4, .ref sc5, .ref sc6, .ref sc7, .ref sc8, .ref sc9])), (sc3, .inl (sck3, 36, .inl (fun _ => 0))), (sc8, .inl (sck8, 49, .inl (fun _ => 0))), (sc9, .inl (sck9, 61, .inl (fun _ => 0))), (tp, .inr (9, [.ref tb, .int 0, .int 0, .int 0]))]) [1, 2, 3, 4, 5, 6] rfl
  have hDc := hD.sub (ws' := [(cr, .inr (1, [.ref sc])), (sc, .inr (0, [.int 0, .int 0, .int 0, .int 0, .int 0, .int 0, .ref sc0, .ref sc1, .ref sc2, .ref sc3, .ref sc4, .ref sc5, .ref sc6, .ref sc7, .ref sc8, .ref sc9])), (sc3, .inl (sck3, 36, .inl (fun _ => 0))), (sc8, .inl (sck8, 49, .inl (fun _ => 0))), (sc9, .inl (sck9, 61, .inl (fun _ => 0))), (tp, .inr (9, [.ref tb, .int 0, .int 0, .int 0]))]) [1, 2, 3, 4, 5, 6] (by decide) rfl
  have hKc := hK.sub (tys' := [(sck3, .int), (sck8, .int), (sck9, .boolean)]) [0, 1, 2] rfl
  have hFc := va_free (wc := [(cr, .inr (1, [.ref sc])), (sc, .inr (0, [.int 0, .int 0, .int 0, .int 0, .int 0, .int 0, .ref sc0, .ref sc1, .ref sc2, .ref sc3, .ref sc4, .ref sc5, .ref sc6, .ref sc7, .ref sc8, .ref sc9])), (sc3, .inl (sck3, 36, .inl (fun _ => 0))), (sc8, .inl (sck8, 49, .inl (fun _ => 0))), (sc9, .inl (sck9, 61, .inl (fun _ => 0))), (tp, .inr (9, [.ref tb, .int 0, .int 0, .int 0]))]) hD hS hA [1, 2, 3, 4, 5, 6] rfl
  refine va_callq (va_runV (As := [.ref tp]) (rest := []) ⟨hx, hb, hml, hown, hts⟩ (c_read l dC dI aK aV cr sc sc0 sc1 sc2 sc3 sc4 sc5 sc6 sc7 sc8 sc9 sck3 sck8 sck9 tp tb  s.heap.size) (cwV 1 hts (gUV tw_480 tw_481 tw_482 tw_3 tw_483) rfl rfl rfl (by decide +kernel) ⟨(Nat.le_of_ble_eq_true rfl), (Nat.le_of_ble_eq_true rfl)⟩) ⟨cPreS.blind, va_recv hKc hPc (ci := 1) (q0 := 0) rfl rfl, cPreS.use hPc hKc hDc hE hStr hR hS hFc⟩ rfl rfl hl.1 rfl (lv_room (Nat.le_of_ble_eq_true rfl)) dX11_choir_8 ⟨(Nat.le_of_ble_eq_true rfl), (Nat.le_of_ble_eq_true rfl)⟩) hS (fun q _ h => hFc q h) hFc (fun r_1 u t H1 locs ht hvm hw hB hz1 hk1 hS => ?_)
  obtain ⟨hP1, hK1, hD1⟩ := hB
  rw [ht] at hP1
  obtain ⟨hP, hD⟩ := va_join (wr := [(h0, .inr (11, [.ref tp, .ref cr, .ref rr, .ref ra, .int 0, .ref nw, .ref im, .ref ps, .ref po, .ref dy, .ref cn, .ref tr]))]) (w1 := [(tp, .inr (9, [.ref tb, .int 0, .int 0, .int 1]))]) hP hD [1, 2, 3, 4, 5, 6] [0] rfl rfl (by decide) (by decide) hk1 hFc hP1 hD1
  generalize H1 = H at hP hS ⊢
  have hP : va_P (dC, dI) vwCl [(h0, .inr (11, [.ref tp, .ref cr, .ref rr, .ref ra, .int 0, .ref nw, .ref im, .ref ps, .ref po, .ref dy, .ref cn, .ref tr])), (tp, .inr (9, [.ref tb, .int 0, .int 0, .int 1]))] H := hP
  have hD : va_D A [(h0, .inr (11, [.ref tp, .ref cr, .ref rr, .ref ra, .int 0, .ref nw, .ref im, .ref ps, .ref po, .ref dy, .ref cn, .ref tr])), (tp, .inr (9, [.ref tb, .int 0, .int 0, .int 1]))] := hD
  obtain rfl : r_1 = none := hw
  refine W.eq (g2 := F0 m 11 ls [.null]) rfl ?_
  refine lv_astore_nN (lv' := [(1, .null), (0, .ref h0)]) hx hb dX11_choir_11 rfl hl (by decide) rfl (fun ls hl => ?_)
  refine lv_aload_nN hx hb dX11_choir_12 rfl (lv_at hl 0 rfl) ?_
  refine lv_ifnonnullN hx hb dX11_choir_13 ?_
  refine lv_bipush (v := (-2)) hx hb dX11_choir_16 (by decide) ?_
  refine lv_aload_n hx hb dX11_choir_18 rfl (lv_at hl 1 rfl) ?_
  refine va_get (D := (dC, dI)) (ci := 11) (v := .ref tp) (C := RX11) (T := TX11) (N := 12) hx hb hts iX11 hown hK hP 0 rfl rfl 0 (by decide) (hts _ tw_423) (fun _ h9 => h9) rfl dX11_choir_19 ?_
  refine va_get (D := (dC, dI)) (ci := 9) (v := .int 1) (C := RX9) (T := TX9) (N := 4) hx hb hts iX9 hown hK hP 1 rfl rfl 3 (by decide) (hts _ tw_45) (fun _ h9 => h9) rfl dX11_choir_22 ?_
  refine lv_isub hx hb dX11_choir_25 ?_
  refine lv_topi (fun x_2 ex_2 => ?_)
  obtain rfl : x_2 = (-3) := ex_2.trans (by decide)
  refine W.widen (k := 0) (n := 0) (Nat.le_of_ble_eq_true rfl) (Nat.le_of_ble_eq_true rfl) ?_
  exact W.iret (v := (-3)) hx hb hr (fun t ht hW => ⟨⟨(-3), (), rfl, rfl, trivial⟩, hS.F ht⟩) hS.2.2 dX11_choir_26
