theorem ts_0_1 : Cond.selects "BoyBishop$ChoirReader" ⟨"BoyBishop$ChoirReader", "readClause", "(LBoyBishop$Tape;I)V"⟩ ⟨"BoyBishop$ChoirReader", "readClause", "(LBoyBishop$Tape;I)V"⟩ ∈ gT := gT_in (List.mem_append_left _ (List.mem_map.mpr ⟨(⟨"BoyBishop$ChoirReader", "readClause", "(LBoyBishop$Tape;I)V"⟩, 1), (List.mem_append_left _ (List.mem_of_getElem? (i := 1) rfl)), rfl⟩)) rfl
theorem tw_105 : (Jvm.Cond.fieldLink "BoyBishop$Choir" (24 : Nat) "BoyBishop$Choir" "age" "[I") ∈ gT := gT_in (List.mem_append_right _ (List.mem_append_left _ (List.mem_of_getElem? (i := 105) rfl))) rfl
theorem tw_108 : (Jvm.Cond.fieldLink "BoyBishop$Choir" (27 : Nat) "BoyBishop$Choir" "prebend" "[I") ∈ gT := gT_in (List.mem_append_right _ (List.mem_append_left _ (List.mem_of_getElem? (i := 108) rfl))) rfl
theorem tw_111 : (Jvm.Cond.fieldLink "BoyBishop$Choir" (30 : Nat) "BoyBishop$Choir" "gift" "[I") ∈ gT := gT_in (List.mem_append_right _ (List.mem_append_left _ (List.mem_of_getElem? (i := 111) rfl))) rfl
theorem tw_115 : (Jvm.Cond.fieldLink "BoyBishop$Choir" (33 : Nat) "BoyBishop$Choir" "more" "[I") ∈ gT := gT_in (List.mem_append_right _ (List.mem_append_left _ (List.mem_of_getElem? (i := 115) rfl))) rfl
theorem tw_154 : (Jvm.Cond.arrayClass Jvm.ClassFile.FieldType.int) ∈ gT := gT_in (List.mem_append_right _ (List.mem_append_left _ (List.mem_of_getElem? (i := 154) rfl))) rfl
theorem tw_155 : (Jvm.Cond.arrayClass Jvm.ClassFile.FieldType.boolean) ∈ gT := gT_in (List.mem_append_right _ (List.mem_append_left _ (List.mem_of_getElem? (i := 155) rfl))) rfl
theorem tw_28 : (Jvm.Cond.instanceMethod ({ cls := "java/lang/Object", name := "<init>", desc := "()V" } : Jvm.MethodName)) ∈ gT := gT_in (List.mem_append_right _ (List.mem_append_left _ (List.mem_of_getElem? (i := 28) rfl))) rfl
theorem tw_29 : (Jvm.Cond.code ({ cls := "java/lang/Object", name := "<init>", desc := "()V" } : Jvm.MethodName) object_method_1_code (1 : Nat) (Option.none : Option Jvm.ClassFile.FieldType)) ∈ gT := gT_in (List.mem_append_right _ (List.mem_append_left _ (List.mem_of_getElem? (i := 29) rfl))) rfl
theorem tw_42 : (Jvm.Cond.fieldLink "BoyBishop$ChoirReader" (30 : Nat) "BoyBishop$Tape" "fault" "I") ∈ gT := gT_in (List.mem_append_right _ (List.mem_append_left _ (List.mem_of_getElem? (i := 42) rfl))) rfl
theorem tw_424 : (Jvm.Cond.fieldLink "BoyBishop" (19 : Nat) "BoyBishop" "choirReader" "LBoyBishop$ChoirReader;") ∈ gT := gT_in (List.mem_append_right _ (List.mem_append_right _ (List.mem_append_left _ (List.mem_of_getElem? (i := 184) rfl)))) rfl
theorem tw_480 : (Jvm.Cond.methodLink "BoyBishop" (108 : Nat) ({ cls := "BoyBishop$ChoirReader", name := "read", desc := "(LBoyBishop$Tape;)LBoyBishop$Choir;" } : Jvm.MethodName)) ∈ gT := gT_in (List.mem_append_right _ (List.mem_append_right _ (List.mem_append_right _ (List.mem_append_left _ (List.mem_of_getElem? (i := 0) rfl))))) rfl
theorem tw_481 : (Jvm.Cond.instanceMethod ({ cls := "BoyBishop$ChoirReader", name := "read", desc := "(LBoyBishop$Tape;)LBoyBishop$Choir;" } : Jvm.MethodName)) ∈ gT := gT_in (List.mem_append_right _ (List.mem_append_right _ (List.mem_append_right _ (List.mem_append_left _ (List.mem_of_getElem? (i := 1) rfl))))) rfl
theorem tw_482 : (Jvm.Cond.selects "BoyBishop$ChoirReader" ({ cls := "BoyBishop$ChoirReader", name := "read", desc := "(LBoyBishop$Tape;)LBoyBishop$Choir;" } : Jvm.MethodName) ({ cls := "BoyBishop$ChoirReader", name := "read", desc := "(LBoyBishop$Tape;)LBoyBishop$Choir;" } : Jvm.MethodName)) ∈ gT := gT_in (List.mem_append_right _ (List.mem_append_right _ (List.mem_append_right _ (List.mem_append_left _ (List.mem_of_getElem? (i := 2) rfl))))) rfl
theorem tw_483 : (Jvm.Cond.code ({ cls := "BoyBishop$ChoirReader", name := "read", desc := "(LBoyBishop$Tape;)LBoyBishop$Choir;" } : Jvm.MethodName) prog_3_method_2_code (3 : Nat) (Option.some (Jvm.ClassFile.FieldType.object "BoyBishop$Choir"))) ∈ gT := gT_in (List.mem_append_right _ (List.mem_append_right _ (List.mem_append_right _ (List.mem_append_left _ (List.mem_of_getElem? (i := 3) rfl))))) rfl
theorem tw_484 : (Jvm.Cond.methodLink "BoyBishop$ChoirReader" (18 : Nat) ({ cls := "BoyBishop$Choir", name := "clear", desc := "()V" } : Jvm.MethodName)) ∈ gT := gT_in (List.mem_append_right _ (List.mem_append_right _ (List.mem_append_right _ (List.mem_append_left _ (List.mem_of_getElem? (i := 4) rfl))))) rfl
theorem tw_485 : (Jvm.Cond.instanceMethod ({ cls := "BoyBishop$Choir", name := "clear", desc := "()V" } : Jvm.MethodName)) ∈ gT := gT_in (List.mem_append_right _ (List.mem_append_right _ (List.mem_append_right _ (List.mem_append_left _ (List.mem_of_getElem? (i := 5) rfl))))) rfl
theorem tw_486 : (Jvm.Cond.selects "BoyBishop$Choir" ({ cls := "BoyBishop$Choir", name := "clear", desc := "()V" } : Jvm.MethodName) ({ cls := "BoyBishop$Choir", name := "clear", desc := "()V" } : Jvm.MethodName)) ∈ gT := gT_in (List.mem_append_right _ (List.mem_append_right _ (List.mem_append_right _ (List.mem_append_left _ (List.mem_of_getElem? (i := 6) rfl))))) rfl
theorem tw_487 : (Jvm.Cond.code ({ cls := "BoyBishop$Choir", name := "clear", desc := "()V" } : Jvm.MethodName) prog_2_method_2_code (2 : Nat) (Option.none : Option Jvm.ClassFile.FieldType)) ∈ gT := gT_in (List.mem_append_right _ (List.mem_append_right _ (List.mem_append_right _ (List.mem_append_left _ (List.mem_of_getElem? (i := 7) rfl))))) rfl
theorem tw_492 : (Jvm.Cond.methodLink "BoyBishop$ChoirReader" (21 : Nat) ({ cls := "BoyBishop$Tape", name := "startReading", desc := "()V" } : Jvm.MethodName)) ∈ gT := gT_in (List.mem_append_right _ (List.mem_append_right _ (List.mem_append_right _ (List.mem_append_left _ (List.mem_of_getElem? (i := 12) rfl))))) rfl
theorem tw_500 : (Jvm.Cond.methodLink "BoyBishop$ChoirReader" (26 : Nat) ({ cls := "BoyBishop$ChoirReader", name := "readClause", desc := "(LBoyBishop$Tape;I)V" } : Jvm.MethodName)) ∈ gT := gT_in (List.mem_append_right _ (List.mem_append_right _ (List.mem_append_right _ (List.mem_append_left _ (List.mem_of_getElem? (i := 20) rfl))))) rfl
theorem tw_502 : (Jvm.Cond.instanceMethod ({ cls := "BoyBishop$ChoirReader", name := "readClause", desc := "(LBoyBishop$Tape;I)V" } : Jvm.MethodName)) ∈ gT := gT_in (List.mem_append_right _ (List.mem_append_right _ (List.mem_append_right _ (List.mem_append_left _ (List.mem_of_getElem? (i := 22) rfl))))) rfl
theorem tw_503 : (Jvm.Cond.code ({ cls := "BoyBishop$ChoirReader", name := "readClause", desc := "(LBoyBishop$Tape;I)V" } : Jvm.MethodName) prog_3_method_3_code (5 : Nat) (Option.none : Option Jvm.ClassFile.FieldType)) ∈ gT := gT_in (List.mem_append_right _ (List.mem_append_right _ (List.mem_append_right _ (List.mem_append_left _ (List.mem_of_getElem? (i := 23) rfl))))) rfl
theorem tw_598 : (Jvm.Cond.methodLink "BoyBishop$ChoirReader" (34 : Nat) ({ cls := "BoyBishop$Tape", name := "atEnd", desc := "()Z" } : Jvm.MethodName)) ∈ gT := gT_in (List.mem_append_right _ (List.mem_append_right _ (List.mem_append_right _ (List.mem_append_left _ (List.mem_of_getElem? (i := 118) rfl))))) rfl
theorem tw_602 : (Jvm.Cond.methodLink "BoyBishop$ChoirReader" (38 : Nat) ({ cls := "BoyBishop$Tape", name := "takeSign", desc := "(C)Z" } : Jvm.MethodName)) ∈ gT := gT_in (List.mem_append_right _ (List.mem_append_right _ (List.mem_append_right _ (List.mem_append_left _ (List.mem_of_getElem? (i := 122) rfl))))) rfl
theorem tw_610 : (Jvm.Cond.methodLink "BoyBishop$ChoirReader" (49 : Nat) ({ cls := "BoyBishop$Choir", name := "shortenWays", desc := "()V" } : Jvm.MethodName)) ∈ gT := gT_in (List.mem_append_right _ (List.mem_append_right _ (List.mem_append_right _ (List.mem_append_left _ (List.mem_of_getElem? (i := 130) rfl))))) rfl
theorem tw_611 : (Jvm.Cond.instanceMethod ({ cls := "BoyBishop$Choir", name := "shortenWays", desc := "()V" } : Jvm.MethodName)) ∈ gT := gT_in (List.mem_append_right _ (List.mem_append_right _ (List.mem_append_right _ (List.mem_append_left _ (List.mem_of_getElem? (i := 131) rfl))))) rfl
theorem tw_612 : (Jvm.Cond.selects "BoyBishop$Choir" ({ cls := "BoyBishop$Choir", name := "shortenWays", desc := "()V" } : Jvm.MethodName) ({ cls := "BoyBishop$Choir", name := "shortenWays", desc := "()V" } : Jvm.MethodName)) ∈ gT := gT_in (List.mem_append_right _ (List.mem_append_right _ (List.mem_append_right _ (List.mem_append_left _ (List.mem_of_getElem? (i := 132) rfl))))) rfl
theorem tw_613 : (Jvm.Cond.code ({ cls := "BoyBishop$Choir", name := "shortenWays", desc := "()V" } : Jvm.MethodName) prog_2_method_5_code (5 : Nat) (Option.none : Option Jvm.ClassFile.FieldType)) ∈ gT := gT_in (List.mem_append_right _ (List.mem_append_right _ (List.mem_append_right _ (List.mem_append_left _ (List.mem_of_getElem? (i := 133) rfl))))) rfl
theorem tw_617 : (Jvm.Cond.methodLink "BoyBishop" (118 : Nat) ({ cls := "BoyBishop$Standing", name := "begin", desc := "(LBoyBishop$Choir;)V" } : Jvm.MethodName)) ∈ gT := gT_in (List.mem_append_right _ (List.mem_append_right _ (List.mem_append_right _ (List.mem_append_left _ (List.mem_of_getElem? (i := 137) rfl))))) rfl
theorem tw_62 : (Jvm.Cond.classLink "BoyBishop$ChoirReader" (9 : Nat) "BoyBishop$Choir") ∈ gT := gT_in (List.mem_append_right _ (List.mem_append_left _ (List.mem_of_getElem? (i := 62) rfl))) rfl
theorem tw_63 : (Jvm.Cond.instantiable "BoyBishop$Choir" (16 : Nat)) ∈ gT := gT_in (List.mem_append_right _ (List.mem_append_left _ (List.mem_of_getElem? (i := 63) rfl))) rfl
theorem tw_64 : (Jvm.Cond.methodLink "BoyBishop$ChoirReader" (11 : Nat) ({ cls := "BoyBishop$Choir", name := "<init>", desc := "()V" } : Jvm.MethodName)) ∈ gT := gT_in (List.mem_append_right _ (List.mem_append_left _ (List.mem_of_getElem? (i := 64) rfl))) rfl
theorem tw_65 : (Jvm.Cond.instanceMethod ({ cls := "BoyBishop$Choir", name := "<init>", desc := "()V" } : Jvm.MethodName)) ∈ gT := gT_in (List.mem_append_right _ (List.mem_append_left _ (List.mem_of_getElem? (i := 65) rfl))) rfl
theorem tw_66 : (Jvm.Cond.code ({ cls := "BoyBishop$Choir", name := "<init>", desc := "()V" } : Jvm.MethodName) prog_2_method_1_code (1 : Nat) (Option.none : Option Jvm.ClassFile.FieldType)) ∈ gT := gT_in (List.mem_append_right _ (List.mem_append_left _ (List.mem_of_getElem? (i := 66) rfl))) rfl
theorem tw_67 : (Jvm.Cond.methodLink "BoyBishop$Choir" (3 : Nat) ({ cls := "java/lang/Object", name := "<init>", desc := "()V" } : Jvm.MethodName)) ∈ gT := gT_in (List.mem_append_right _ (List.mem_append_left _ (List.mem_of_getElem? (i := 67) rfl))) rfl
theorem tw_68 : (Jvm.Cond.fieldLink "BoyBishop$ChoirReader" (52 : Nat) "BoyBishop$Choir" "told" "Z") ∈ gT := gT_in (List.mem_append_right _ (List.mem_append_left _ (List.mem_of_getElem? (i := 68) rfl))) rfl
theorem tw_90 : (Jvm.Cond.fieldLink "BoyBishop$Choir" (9 : Nat) "BoyBishop$Choir" "voice" "[I") ∈ gT := gT_in (List.mem_append_right _ (List.mem_append_left _ (List.mem_of_getElem? (i := 90) rfl))) rfl
theorem tw_93 : (Jvm.Cond.fieldLink "BoyBishop$Choir" (15 : Nat) "BoyBishop$Choir" "share" "[I") ∈ gT := gT_in (List.mem_append_right _ (List.mem_append_left _ (List.mem_of_getElem? (i := 93) rfl))) rfl
theorem tw_96 : (Jvm.Cond.fieldLink "BoyBishop$Choir" (18 : Nat) "BoyBishop$Choir" "fade" "[I") ∈ gT := gT_in (List.mem_append_right _ (List.mem_append_left _ (List.mem_of_getElem? (i := 96) rfl))) rfl
theorem dX0_init_0 : decode cX0_init 0 = .ok (.aload_n 0, 1) := by decide +kernel
theorem dX0_init_1 : decode cX0_init 1 = .ok (.invokespecial 3, 3) := by decide +kernel
theorem dX0_init_4 : decode cX0_init 4 = .ok (.aload_n 0, 1) := by decide +kernel
theorem dX0_init_5 : decode cX0_init 5 = .ok (.bipush 6, 2) := by decide +kernel
theorem dX0_init_7 : decode cX0_init 7 = .ok (.newarray .int, 2) := by decide +kernel
theorem dX0_init_9 : decode cX0_init 9 = .ok (.putfield 9, 3) := by decide +kernel
theorem dX0_init_12 : decode cX0_init 12 = .ok (.aload_n 0, 1) := by decide +kernel
theorem dX0_init_13 : decode cX0_init 13 = .ok (.bipush 6, 2) := by decide +kernel
theorem dX0_init_15 : decode cX0_init 15 = .ok (.newarray .int, 2) := by decide +kernel
theorem dX0_init_17 : decode cX0_init 17 = .ok (.putfield 15, 3) := by decide +kernel
theorem dX0_init_20 : decode cX0_init 20 = .ok (.aload_n 0, 1) := by decide +kernel
theorem dX0_init_21 : decode cX0_init 21 = .ok (.bipush 6, 2) := by decide +kernel
theorem dX0_init_23 : decode cX0_init 23 = .ok (.newarray .int, 2) := by decide +kernel
theorem dX0_init_25 : decode cX0_init 25 = .ok (.putfield 18, 3) := by decide +kernel
theorem dX0_init_28 : decode cX0_init 28 = .ok (.aload_n 0, 1) := by decide +kernel
theorem dX0_init_29 : decode cX0_init 29 = .ok (.bipush 36, 2) := by decide +kernel
theorem dX0_init_31 : decode cX0_init 31 = .ok (.newarray .int, 2) := by decide +kernel
theorem dX0_init_33 : decode cX0_init 33 = .ok (.putfield 21, 3) := by decide +kernel
theorem dX0_init_36 : decode cX0_init 36 = .ok (.aload_n 0, 1) := by decide +kernel
theorem dX0_init_37 : decode cX0_init 37 = .ok (.iconst 4, 1) := by decide +kernel
theorem dX0_init_38 : decode cX0_init 38 = .ok (.newarray .int, 2) := by decide +kernel
theorem dX0_init_40 : decode cX0_init 40 = .ok (.putfield 24, 3) := by decide +kernel
theorem dX0_init_43 : decode cX0_init 43 = .ok (.aload_n 0, 1) := by decide +kernel
theorem dX0_init_44 : decode cX0_init 44 = .ok (.iconst 4, 1) := by decide +kernel
theorem dX0_init_45 : decode cX0_init 45 = .ok (.newarray .int, 2) := by decide +kernel
theorem dX0_init_47 : decode cX0_init 47 = .ok (.putfield 27, 3) := by decide +kernel
theorem dX0_init_50 : decode cX0_init 50 = .ok (.aload_n 0, 1) := by decide +kernel
theorem dX0_init_51 : decode cX0_init 51 = .ok (.bipush 6, 2) := by decide +kernel
theorem dX0_init_53 : decode cX0_init 53 = .ok (.newarray .int, 2) := by decide +kernel
theorem dX0_init_55 : decode cX0_init 55 = .ok (.putfield 30, 3) := by decide +kernel
theorem dX0_init_58 : decode cX0_init 58 = .ok (.aload_n 0, 1) := by decide +kernel
theorem dX0_init_59 : decode cX0_init 59 = .ok (.bipush 6, 2) := by decide +kernel
theorem dX0_init_61 : decode cX0_init 61 = .ok (.newarray .int, 2) := by decide +kernel
theorem dX0_init_63 : decode cX0_init 63 = .ok (.putfield 33, 3) := by decide +kernel
theorem dX0_init_66 : decode cX0_init 66 = .ok (.aload_n 0, 1) := by decide +kernel
theorem dX0_init_67 : decode cX0_init 67 = .ok (.bipush 49, 2) := by decide +kernel
theorem dX0_init_69 : decode cX0_init 69 = .ok (.newarray .int, 2) := by decide +kernel
theorem dX0_init_71 : decode cX0_init 71 = .ok (.putfield 36, 3) := by decide +kernel
theorem dX0_init_74 : decode cX0_init 74 = .ok (.aload_n 0, 1) := by decide +kernel
theorem dX0_init_75 : decode cX0_init 75 = .ok (.bipush 61, 2) := by decide +kernel
theorem dX0_init_77 : decode cX0_init 77 = .ok (.newarray .boolean, 2) := by decide +kernel
theorem dX0_init_79 : decode cX0_init 79 = .ok (.putfield 39, 3) := by decide +kernel
theorem dX0_init_82 : decode cX0_init 82 = .ok (.return_, 1) := by decide +kernel
theorem dX11_choir_0 : decode cX11_choir 0 = .ok (.aload_n 0, 1) := by decide +kernel
theorem dX11_choir_1 : decode cX11_choir 1 = .ok (.getfield 19, 3) := by decide +kernel
theorem dX11_choir_4 : decode cX11_choir 4 = .ok (.aload_n 0, 1) := by decide +kernel
theorem dX11_choir_5 : decode cX11_choir 5 = .ok (.getfield 10, 3) := by decide +kernel
theorem dX11_choir_8 : decode cX11_choir 8 = .ok (.invokevirtual 108, 3) := by decide +kernel
theorem dX11_choir_11 : decode cX11_choir 11 = .ok (.astore_n 1, 1) := by decide +kernel
theorem dX11_choir_12 : decode cX11_choir 12 = .ok (.aload_n 1, 1) := by decide +kernel
theorem dX11_choir_13 : decode cX11_choir 13 = .ok (.ifnonnull 14, 3) := by decide +kernel
theorem dX11_choir_16 : decode cX11_choir 16 = .ok (.bipush (-2), 2) := by decide +kernel
theorem dX11_choir_18 : decode cX11_choir 18 = .ok (.aload_n 0, 1) := by decide +kernel
theorem dX11_choir_19 : decode cX11_choir 19 = .ok (.getfield 10, 3) := by decide +kernel
theorem dX11_choir_22 : decode cX11_choir 22 = .ok (.getfield 112, 3) := by decide +kernel
theorem dX11_choir_25 : decode cX11_choir 25 = .ok (.isub, 1) := by decide +kernel
theorem dX11_choir_26 : decode cX11_choir 26 = .ok (.ireturn, 1) := by decide +kernel
theorem dX11_choir_27 : decode cX11_choir 27 = .ok (.aload_n 0, 1) := by decide +kernel
theorem dX11_choir_28 : decode cX11_choir 28 = .ok (.getfield 10, 3) := by decide +kernel
theorem dX11_choir_31 : decode cX11_choir 31 = .ok (.iconst 0, 1) := by decide +kernel
theorem dX11_choir_32 : decode cX11_choir 32 = .ok (.putfield 104, 3) := by decide +kernel
theorem dX11_choir_35 : decode cX11_choir 35 = .ok (.aload_n 0, 1) := by decide +kernel
theorem dX11_choir_36 : decode cX11_choir 36 = .ok (.getfield 45, 3) := by decide +kernel
theorem dX11_choir_39 : decode cX11_choir 39 = .ok (.aload_n 1, 1) := by decide +kernel
theorem dX11_choir_40 : decode cX11_choir 40 = .ok (.putfield 53, 3) := by decide +kernel
theorem dX11_choir_43 : decode cX11_choir 43 = .ok (.aload_n 0, 1) := by decide +kernel
theorem dX11_choir_44 : decode cX11_choir 44 = .ok (.getfield 45, 3) := by decide +kernel
theorem dX11_choir_47 : decode cX11_choir 47 = .ok (.getfield 115, 3) := by decide +kernel
theorem dX11_choir_50 : decode cX11_choir 50 = .ok (.aload_n 1, 1) := by decide +kernel
theorem dX11_choir_51 : decode cX11_choir 51 = .ok (.invokevirtual 118, 3) := by decide +kernel
theorem dX11_choir_54 : decode cX11_choir 54 = .ok (.aload_n 0, 1) := by decide +kernel
theorem dX11_choir_55 : decode cX11_choir 55 = .ok (.getfield 45, 3) := by decide +kernel
theorem dX11_choir_58 : decode cX11_choir 58 = .ok (.iconst 0, 1) := by decide +kernel
theorem dX11_choir_59 : decode cX11_choir 59 = .ok (.putfield 121, 3) := by decide +kernel
theorem dX11_choir_62 : decode cX11_choir 62 = .ok (.aload_n 0, 1) := by decide +kernel
theorem dX11_choir_63 : decode cX11_choir 63 = .ok (.getfield 60, 3) := by decide +kernel
theorem dX11_choir_66 : decode cX11_choir 66 = .ok (.invokevirtual 124, 3) := by decide +kernel
theorem dX11_choir_69 : decode cX11_choir 69 = .ok (.aload_n 1, 1) := by decide +kernel
theorem dX11_choir_70 : decode cX11_choir 70 = .ok (.getfield 127, 3) := by decide +kernel
theorem dX11_choir_73 : decode cX11_choir 73 = .ok (.ireturn, 1) := by decide +kernel
theorem dX1_read_0 : decode cX1_read 0 = .ok (.aload_n 0, 1) := by decide +kernel
theorem dX1_read_1 : decode cX1_read 1 = .ok (.getfield 12, 3) := by decide +kernel
theorem dX1_read_4 : decode cX1_read 4 = .ok (.invokevirtual 18, 3) := by decide +kernel
theorem dX1_read_7 : decode cX1_read 7 = .ok (.aload_n 1, 1) := by decide +kernel
theorem dX1_read_8 : decode cX1_read 8 = .ok (.invokevirtual 21, 3) := by decide +kernel
theorem dX1_read_11 : decode cX1_read 11 = .ok (.iconst 0, 1) := by decide +kernel
theorem dX1_read_12 : decode cX1_read 12 = .ok (.istore_n 2, 1) := by decide +kernel
theorem dX1_read_13 : decode cX1_read 13 = .ok (.iload_n 2, 1) := by decide +kernel
theorem dX1_read_14 : decode cX1_read 14 = .ok (.bipush 40, 2) := by decide +kernel
theorem dX1_read_16 : decode cX1_read 16 = .ok (.if_icmp .gt 50, 3) := by decide +kernel
theorem dX1_read_19 : decode cX1_read 19 = .ok (.aload_n 0, 1) := by decide +kernel
theorem dX1_read_20 : decode cX1_read 20 = .ok (.aload_n 1, 1) := by decide +kernel
theorem dX1_read_21 : decode cX1_read 21 = .ok (.iload_n 2, 1) := by decide +kernel
theorem dX1_read_22 : decode cX1_read 22 = .ok (.invokevirtual 26, 3) := by decide +kernel
theorem dX1_read_25 : decode cX1_read 25 = .ok (.aload_n 1, 1) := by decide +kernel
theorem dX1_read_26 : decode cX1_read 26 = .ok (.getfield 30, 3) := by decide +kernel
theorem dX1_read_29 : decode cX1_read 29 = .ok (.ifCond .ne 37, 3) := by decide +kernel
theorem dX1_read_32 : decode cX1_read 32 = .ok (.aload_n 1, 1) := by decide +kernel
theorem dX1_read_33 : decode cX1_read 33 = .ok (.invokevirtual 34, 3) := by decide +kernel
theorem dX1_read_36 : decode cX1_read 36 = .ok (.ifCond .eq 6, 3) := by decide +kernel
theorem dX1_read_39 : decode cX1_read 39 = .ok (.goto 27, 3) := by decide +kernel
theorem dX1_read_42 : decode cX1_read 42 = .ok (.aload_n 1, 1) := by decide +kernel
theorem dX1_read_43 : decode cX1_read 43 = .ok (.bipush 59, 2) := by decide +kernel
theorem dX1_read_45 : decode cX1_read 45 = .ok (.invokevirtual 38, 3) := by decide +kernel
theorem dX1_read_48 : decode cX1_read 48 = .ok (.ifCond .ne 12, 3) := by decide +kernel
theorem dX1_read_51 : decode cX1_read 51 = .ok (.aload_n 1, 1) := by decide +kernel
theorem dX1_read_52 : decode cX1_read 52 = .ok (.aload_n 1, 1) := by decide +kernel
theorem dX1_read_53 : decode cX1_read 53 = .ok (.getfield 42, 3) := by decide +kernel
theorem dX1_read_56 : decode cX1_read 56 = .ok (.iconst 0, 1) := by decide +kernel
theorem dX1_read_57 : decode cX1_read 57 = .ok (.invokevirtual 45, 3) := by decide +kernel
theorem dX1_read_60 : decode cX1_read 60 = .ok (.iinc 2 1, 3) := by decide +kernel
theorem dX1_read_63 : decode cX1_read 63 = .ok (.goto (-50), 3) := by decide +kernel
theorem dX1_read_66 : decode cX1_read 66 = .ok (.aload_n 1, 1) := by decide +kernel
theorem dX1_read_67 : decode cX1_read 67 = .ok (.getfield 30, 3) := by decide +kernel
theorem dX1_read_70 : decode cX1_read 70 = .ok (.ifCond .eq 5, 3) := by decide +kernel
theorem dX1_read_73 : decode cX1_read 73 = .ok (.aconst_null, 1) := by decide +kernel
theorem dX1_read_74 : decode cX1_read 74 = .ok (.areturn, 1) := by decide +kernel
theorem dX1_read_75 : decode cX1_read 75 = .ok (.aload_n 0, 1) := by decide +kernel
theorem dX1_read_76 : decode cX1_read 76 = .ok (.getfield 12, 3) := by decide +kernel
theorem dX1_read_79 : decode cX1_read 79 = .ok (.astore_n 2, 1) := by decide +kernel
theorem dX1_read_80 : decode cX1_read 80 = .ok (.aload_n 2, 1) := by decide +kernel
theorem dX1_read_81 : decode cX1_read 81 = .ok (.invokevirtual 49, 3) := by decide +kernel
theorem dX1_read_84 : decode cX1_read 84 = .ok (.aload_n 2, 1) := by decide +kernel
theorem dX1_read_85 : decode cX1_read 85 = .ok (.iconst 1, 1) := by decide +kernel
theorem dX1_read_86 : decode cX1_read 86 = .ok (.putfield 52, 3) := by decide +kernel
theorem dX1_read_89 : decode cX1_read 89 = .ok (.aload_n 0, 1) := by decide +kernel
theorem dX1_read_90 : decode cX1_read 90 = .ok (.new 9, 3) := by decide +kernel
theorem dX1_read_93 : decode cX1_read 93 = .ok (.dup, 1) := by decide +kernel
theorem dX1_read_94 : decode cX1_read 94 = .ok (.invokespecial 11, 3) := by decide +kernel
theorem dX1_read_97 : decode cX1_read 97 = .ok (.putfield 12, 3) := by decide +kernel
theorem dX1_read_100 : decode cX1_read 100 = .ok (.aload_n 2, 1) := by decide +kernel
theorem dX1_read_101 : decode cX1_read 101 = .ok (.areturn, 1) := by decide +kernel
theorem dfX0 : ∀ j, j < 16 → defaultValue (tyX0 j) = vp_V [.int 0, .int 0, .int 0, .int 0, .int 0, .int 0, .null, .null, .null, .null, .null, .null, .null, .null, .null, .null] j
  | 0, _ => rfl
  | 1, _ => rfl
  | 2, _ => rfl
  | 3, _ => rfl
  | 4, _ => rfl
  | 5, _ => rfl
  | 6, _ => rfl
  | 7, _ => rfl
  | 8, _ => rfl
  | 9, _ => rfl
  | 10, _ => rfl
  | 11, _ => rfl
  | 12, _ => rfl
  | 13, _ => rfl
  | 14, _ => rfl
  | 15, _ => rfl
  | _ + 16, h => absurd h (by omega)
set_option maxHeartbeats 4000000 in
set_option maxRecDepth 100000 in
/-- Choir(): ten arrays of 0 -/
theorem c_Choir_init (l : Launch) (dC : Nat → ClassId) (dI : Nat → Nat → Nat) (h0 : Nat) (sz : Nat) : Met l yX0_init (ws_u yX0_init cX0_init 1 none) ({ frames := 1, cells := 10, slots := 184, locals := 28 }) (va_Pc [.ref h0] (cPre (dC, dI) [] [(h0, .inr (0, [.int 0, .int 0, .int 0, .int 0, .int 0, .int 0, .null, .null, .null, .null, .null, .null, .null, .null, .null, .null]))] sz)) (va_Qv (fun _ : Unit => True) (fun _ t => ∃ (q0 : Nat) (k0 : ClassId) (q1 : Nat) (k1 : ClassId) (q2 : Nat) (k2 : ClassId) (q3 : Nat) (k3 : ClassId) (q4 : Nat) (k4 : ClassId) (q5 : Nat) (k5 : ClassId) (q6 : Nat) (k6 : ClassId) (q7 : Nat) (k7 : ClassId) (q8 : Nat) (k8 : ClassId) (q9 : Nat) (k9 : ClassId), cPost (dC, dI) [(k0, .int), (k1, .int), (k2, .int), (k3, .int), (k4, .int), (k5, .int), (k6, .int), (k7, .int), (k8, .int), (k9, .boolean)] [(h0, .inr (0, [.int 0, .int 0, .int 0, .int 0, .int 0, .int 0, .ref q0, .ref q1, .ref q2, .ref q3, .ref q4, .ref q5, .ref q6, .ref q7, .ref q8, .ref q9])), (q0, .inl (k0, 6, .inl (fun _ => 0))), (q1, .inl (k1, 6, .inl (fun _ => 0))), (q2, .inl (k2, 6, .inl (fun _ => 0))), (q3, .inl (k3, 36, .inl (fun _ => 0))), (q4, .inl (k4, 4, .inl (fun _ => 0))), (q5, .inl (k5, 4, .inl (fun _ => 0))), (q6, .inl (k6, 6, .inl (fun _ => 0))), (q7, .inl (k7, 6, .inl (fun _ => 0))), (q8, .inl (k8, 49, .inl (fun _ => 0))), (q9, .inl (k9, 61, .inl (fun _ => 0)))] (va_A [(h0, .inr (0, [.int 0, .int 0, .int 0, .int 0, .int 0, .int 0, .null, .null, .null, .null, .null, .null, .null, .null, .null, .null]))] sz) t) (va_A [(h0, .inr (0, [.int 0, .int 0, .int 0, .int 0, .int 0, .int 0, .null, .null, .null, .null, .null, .null, .null, .null, .null, .null]))] sz)) 10 184 (va_A [(h0, .inr (0, [.int 0, .int 0, .int 0, .int 0, .int 0, .int 0, .null, .null, .null, .null, .null, .null, .null, .null, .null, .null]))] sz) := by
  refine Met.ofW (cc := cX0_init) (maxL := 1) (ret := none) (by decide) rfl ?_
  intro p e s m args below meth c s₁ B hml hv
  obtain ⟨rfl, hsz, hP, hK, hD0, hE⟩ := hv
  have hx := B.exec
  have hb := B.bytes
  have hr := B.returns
  have hts0 := atoms_spec (ws := ws_u yX0_init cX0_init 1 none) B.pre
  have hts : ∀ w ∈ gT, w.before _ s = true := fun w h => hts0 w (List.mem_cons_of_mem _ h)
  have hown : s.vm.findClass RX0 = some m.cls := findClass_of_methodNamed B.named
  have hlocks := B.notSynchronized
  have hin : meth.name = "<init>" := (name_of_methodNamed B.named B.method).1
  subst hsz
  have hD := hD0.self (sz := s.heap.size)
  generalize hAe : va_A [(h0, .inr (0, [.int 0, .int 0, .int 0, .int 0, .int 0, .int 0, .null, .null, .null, .null, .null, .null, .null, .null, .null, .null]))] s.heap.size = A at hD ⊢
  have hA : ∀ q : Nat, s.heap.size ≤ q → A q := fun q h => by rw [← hAe]; exact Or.inr h
  have hS : va_S A s.heap s.heap [] := va_S.rf
  have hl := lv_entry ([.ref h0]) (n := 1) (Nat.le_of_ble_eq_true rfl)
  rw [lg_entry_eq]
  generalize (lg_sl ([.ref h0]) ++ List.replicate (1 - (lg_sl ([.ref h0])).length) Slot.unset).toArray = ls at hl ⊢
  have hl : lv_has ls 1 [(0, .ref h0)] := hl
  have hP : va_P (dC, dI) vwCl [(h0, .inr (0, [.int 0, .int 0, .int 0, .int 0, .int 0, .int 0, .null, .null, .null, .null, .null, .null, .null, .null, .null, .null]))] s.heap := hP
  try clear hAe
  refine lv_aload_n hx hb dX0_init_0 rfl (lv_at hl 0 rfl) ?_
  refine W.objInit hx hb hown (hts _ tw_67) (hts _ tw_28) (hts _ tw_29) rfl (by rw [hml]; exact hl.1) rfl dX0_init_1 (Nat.le_of_ble_eq_true rfl) (Nat.le_of_ble_eq_true rfl) ?_
  refine W.eq (g2 := F0 m 4 ls []) rfl ?_
  refine lv_aload_n hx hb dX0_init_4 rfl (lv_at hl 0 rfl) ?_
  refine lv_bipush (v := 6) hx hb dX0_init_5 (by decide) ?_
  refine va_newa (D := (dC, dI)) (a0 := (6, .inl (fun _ => 0))) (N' := 6) (ty := .int) (atype := .int) hx hb (hts _ tw_154) rfl hK hP hD hS hA (fun _ => rfl) (by decide) (by decide) (Nat.le_of_ble_eq_true rfl) (Nat.le_of_ble_eq_true rfl) (Nat.le_of_ble_eq_true rfl) dX0_init_7 (fun q_1 k_2 H hK hP hD hS => ?_)
  have hK : va_K (dC, dI) vwCl [(k_2, .int)] s := hK
  have hP : va_P (dC, dI) vwCl [(h0, .inr (0, [.int 0, .int 0, .int 0, .int 0, .int 0, .int 0, .null, .null, .null, .null, .null, .null, .null, .null, .null, .null])), (q_1, .inl (k_2, 6, .inl (fun _ => 0)))] H := hP
  have hD : va_D A [(h0, .inr (0, [.int 0, .int 0, .int 0, .int 0, .int 0, .int 0, .null, .null, .null, .null, .null, .null, .null, .null, .null, .null])), (q_1, .inl (k_2, 6, .inl (fun _ => 0)))] := hD
  refine va_putF (D := (dC, dI)) (ci := 0) (v := .ref q_1) (C := RX0) (T := TX0) (N := 16) hx hb hts iX0 tyX0 tyX0_ok nmX0 hown hK hP hD hS 0 rfl rfl 6 (by decide) (hts _ tw_90) (fun _ h9 => h9) rfl hin rfl (tyX0_ok 6 (by decide)) rfl rfl (Nat.le_of_ble_eq_true rfl) dX0_init_9 (fun H locs hP hD hS => ?_)
  have hP : va_P (dC, dI) vwCl [(h0, .inr (0, [.int 0, .int 0, .int 0, .int 0, .int 0, .int 0, .ref q_1, .null, .null, .null, .null, .null, .null, .null, .null, .null])), (q_1, .inl (k_2, 6, .inl (fun _ => 0)))] H := hP
  have hD : va_D A [(h0, .inr (0, [.int 0, .int 0, .int 0, .int 0, .int 0, .int 0, .ref q_1, .null, .null, .null, .null, .null, .null, .null, .null, .null])), (q_1, .inl (k_2, 6, .inl (fun _ => 0)))] := hD
  refine lv_aload_n hx hb dX0_init_12 rfl (lv_at hl 0 rfl) ?_
  refine lv_bipush (v := 6) hx hb dX0_init_13 (by decide) ?_
  refine va_newa (D := (dC, dI)) (a0 := (6, .inl (fun _ => 0))) (N' := 6) (ty := .int) (atype := .int) hx hb (hts _ tw_154) rfl hK hP hD hS hA (fun _ => rfl) (by decide) (by decide) (Nat.le_of_ble_eq_true rfl) (Nat.le_of_ble_eq_true rfl) (Nat.le_of_ble_eq_true rfl) dX0_init_15 (fun q_3 k_4 H hK hP hD hS => ?_)
  have hK : va_K (dC, dI) vwCl [(k_2, .int), (k_4, .int)] s := hK
  have hP : va_P (dC, dI) vwCl [(h0, .inr (0, [.int 0, .int 0, .int 0, .int 0, .int 0, .int 0, .ref q_1, .null, .null, .null, .null, .null, .null, .null, .null, .null])), (q_1, .inl (k_2, 6, .inl (fun _ => 0))), (q_3, .inl (k_4, 6, .inl (fun _ => 0)))] H := hP
  have hD : va_D A [(h0, .inr (0, [.int 0, .int 0, .int 0, .int 0, .int 0, .int 0, .ref q_1, .null, .null, .null, .null, .null, .null, .null, .null, .null])), (q_1, .inl (k_2, 6, .inl (fun _ => 0))), (q_3, .inl (k_4, 6, .inl (fun _ => 0)))] := hD
  refine va_putF (D := (dC, dI)) (ci := 0) (v := .ref q_3) (C := RX0) (T := TX0) (N := 16) hx hb hts iX0 tyX0 tyX0_ok nmX0 hown hK hP hD hS 0 rfl rfl 7 (by decide) (hts _ tw_93) (fun _ h9 => h9) rfl hin rfl (tyX0_ok 7 (by decide)) rfl rfl (Nat.le_of_ble_eq_true rfl) dX0_init_17 (fun H locs hP hD hS => ?_)
  have hP : va_P (dC, dI) vwCl [(h0, .inr (0, [.int 0, .int 0, .int 0, .int 0, .int 0, .int 0, .ref q_1, .ref q_3, .null, .null, .null, .null, .null, .null, .null, .null])), (q_1, .inl (k_2, 6, .inl (fun _ => 0))), (q_3, .inl (k_4, 6, .inl (fun _ => 0)))] H := hP
  have hD : va_D A [(h0, .inr (0, [.int 0, .int 0, .int 0, .int 0, .int 0, .int 0, .ref q_1, .ref q_3, .null, .null, .null, .null, .null, .null, .null, .null])), (q_1, .inl (k_2, 6, .inl (fun _ => 0))), (q_3, .inl (k_4, 6, .inl (fun _ => 0)))] := hD
  refine lv_aload_n hx hb dX0_init_20 rfl (lv_at hl 0 rfl) ?_
  refine lv_bipush (v := 6) hx hb dX0_init_21 (by decide) ?_
  refine va_newa (D := (dC, dI)) (a0 := (6, .inl (fun _ => 0))) (N' := 6) (ty := .int) (atype := .int) hx hb (hts _ tw_154) rfl hK hP hD hS hA (fun _ => rfl) (by decide) (by decide) (Nat.le_of_ble_eq_true rfl) (Nat.le_of_ble_eq_true rfl) (Nat.le_of_ble_eq_true rfl) dX0_init_23 (fun q_5 k_6 H hK hP hD hS => ?_)
  have hK : va_K (dC, dI) vwCl [(k_2, .int), (k_4, .int), (k_6, .int)] s := hK
  have hP : va_P (dC, dI) vwCl [(h0, .inr (0, [.int 0, .int 0, .int 0, .int 0, .int 0, .int 0, .ref q_1, .ref q_3, .null, .null, .null, .null, .null, .null, .null, .null])), (q_1, .inl (k_2, 6, .inl (fun _ => 0))), (q_3, .inl (k_4, 6, .inl (fun _ => 0))), (q_5, .inl (k_6, 6, .inl (fun _ => 0)))] H := hP
  have hD : va_D A [(h0, .inr (0, [.int 0, .int 0, .int 0, .int 0, .int 0, .int 0, .ref q_1, .ref q_3, .null, .null, .null, .null, .null, .null, .null, .null])), (q_1, .inl (k_2, 6, .inl (fun _ => 0))), (q_3, .inl (k_4, 6, .inl (fun _ => 0))), (q_5, .inl (k_6, 6, .inl (fun _ => 0)))] := hD
  refine va_putF (D := (dC, dI)) (ci := 0) (v := .ref q_5) (C := RX0) (T := TX0) (N := 16) hx hb hts iX0 tyX0 tyX0_ok nmX0 hown hK hP hD hS 0 rfl rfl 8 (by decide) (hts _ tw_96) (fun _ h9 => h9) rfl hin rfl (tyX0_ok 8 (by decide)) rfl rfl (Nat.le_of_ble_eq_true rfl) dX0_init_25 (fun H locs hP hD hS => ?_)
  have hP : va_P (dC, dI) vwCl [(h0, .inr (0, [.int 0, .int 0, .int 0, .int 0, .int 0, .int 0, .ref q_1, .ref q_3, .ref q_5, .null, .null, .null, .null, .null, .null, .null])), (q_1, .inl (k_2, 6, .inl (fun _ => 0))), (q_3, .inl (k_4, 6, .inl (fun _ => 0))), (q_5, .inl (k_6, 6, .inl (fun _ => 0)))] H := hP
  have hD : va_D A [(h0, .inr (0, [.int 0, .int 0, .int 0, .int 0, .int 0, .int 0, .ref q_1, .ref q_3, .ref q_5, .null, .null, .null, .null, .null, .null, .null])), (q_1, .inl (k_2, 6, .inl (fun _ => 0))), (q_3, .inl (k_4, 6, .inl (fun _ => 0))), (q_5, .inl (k_6, 6, .inl (fun _ => 0)))] := hD
  refine lv_aload_n hx hb dX0_init_28 rfl (lv_at hl 0 rfl) ?_
  refine lv_bipush (v := 36) hx hb dX0_init_29 (by decide) ?_
  refine va_newa (D := (dC, dI)) (a0 := (36, .inl (fun _ => 0))) (N' := 36) (ty := .int) (atype := .int) hx hb (hts _ tw_154) rfl hK hP hD hS hA (fun _ => rfl) (by decide) (by decide) (Nat.le_of_ble_eq_true rfl) (Nat.le_of_ble_eq_true rfl) (Nat.le_of_ble_eq_true rfl) dX0_init_31 (fun q_7 k_8 H hK hP hD hS => ?_)
  have hK : va_K (dC, dI) vwCl [(k_2, .int), (k_4, .int), (k_6, .int), (k_8, .int)] s := hK
  have hP : va_P (dC, dI) vwCl [(h0, .inr (0, [.int 0, .int 0, .int 0, .int 0, .int 0, .int 0, .ref q_1, .ref q_3, .ref q_5, .null, .null, .null, .null, .null, .null, .null])), (q_1, .inl (k_2, 6, .inl (fun _ => 0))), (q_3, .inl (k_4, 6, .inl (fun _ => 0))), (q_5, .inl (k_6, 6, .inl (fun _ => 0))), (q_7, .inl (k_8, 36, .inl (fun _ => 0)))] H := hP
  have hD : va_D A [(h0, .inr (0, [.int 0, .int 0, .int 0, .int 0, .int 0, .int 0, .ref q_1, .ref q_3, .ref q_5, .null, .null, .null, .null, .null, .null, .null])), (q_1, .inl (k_2, 6, .inl (fun _ => 0))), (q_3, .inl (k_4, 6, .inl (fun _ => 0))), (q_5, .inl (k_6, 6, .inl (fun _ => 0))), (q_7, .inl (k_8, 36, .inl (fun _ => 0)))] := hD
  refine va_putF (D := (dC, dI)) (ci := 0) (v := .ref q_7) (C := RX0) (T := TX0) (N := 16) hx hb hts iX0 tyX0 tyX0_ok nmX0 hown hK hP hD hS 0 rfl rfl 9 (by decide) (hts _ tw_101) (fun _ h9 => h9) rfl hin rfl (tyX0_ok 9 (by decide)) rfl rfl (Nat.le_of_ble_eq_true rfl) dX0_init_33 (fun H locs hP hD hS => ?_)
  have hP : va_P (dC, dI) vwCl [(h0, .inr (0, [.int 0, .int 0, .int 0, .int 0, .int 0, .int 0, .ref q_1, .ref q_3, .ref q_5, .ref q_7, .null, .null, .null, .null, .null, .null])), (q_1, .inl (k_2, 6, .inl (fun _ => 0))), (q_3, .inl (k_4, 6, .inl (fun _ => 0))), (q_5, .inl (k_6, 6, .inl (fun _ => 0))), (q_7, .inl (k_8, 36, .inl (fun _ => 0)))] H := hP
  have hD : va_D A [(h0, .inr (0, [.int 0, .int 0, .int 0, .int 0, .int 0, .int 0, .ref q_1, .ref q_3, .ref q_5, .ref q_7, .null, .null, .null, .null, .null, .null])), (q_1, .inl (k_2, 6, .inl (fun _ => 0))), (q_3, .inl (k_4, 6, .inl (fun _ => 0))), (q_5, .inl (k_6, 6, .inl (fun _ => 0))), (q_7, .inl (k_8, 36, .inl (fun _ => 0)))] := hD
  refine lv_aload_n hx hb dX0_init_36 rfl (lv_at hl 0 rfl) ?_
  refine lv_iconst (v := 4) hx hb dX0_init_37 (by decide) ?_
  refine va_newa (D := (dC, dI)) (a0 := (4, .inl (fun _ => 0))) (N' := 4) (ty := .int) (atype := .int) hx hb (hts _ tw_154) rfl hK hP hD hS hA (fun _ => rfl) (by decide) (by decide) (Nat.le_of_ble_eq_true rfl) (Nat.le_of_ble_eq_true rfl) (Nat.le_of_ble_eq_true rfl) dX0_init_38 (fun q_9 k_10 H hK hP hD hS => ?_)
  have hK : va_K (dC, dI) vwCl [(k_2, .int), (k_4, .int), (k_6, .int), (k_8, .int), (k_10, .int)] s := hK
  have hP : va_P (dC, dI) vwCl [(h0, .inr (0, [.int 0, .int 0, .int 0, .int 0, .int 0, .int 0, .ref q_1, .ref q_3, .ref q_5, .ref q_7, .null, .null, .null, .null, .null, .null])), (q_1, .inl (k_2, 6, .inl (fun _ => 0))), (q_3, .inl (k_4, 6, .inl (fun _ => 0))), (q_5, .inl (k_6, 6, .inl (fun _ => 0))), (q_7, .inl (k_8, 36, .inl (fun _ => 0))), (q_9, .inl (k_10, 4, .inl (fun _ => 0)))] H := hP
  have hD : va_D A [(h0, .inr (0, [.int 0, .int 0, .int 0, .int 0, .int 0, .int 0, .ref q_1, .ref q_3, .ref q_5, .ref q_7, .null, .null, .null, .null, .null, .null])), (q_1, .inl (k_2, 6, .inl (fun _ => 0))), (q_3, .inl (k_4, 6, .inl (fun _ => 0))), (q_5, .inl (k_6, 6, .inl (fun _ => 0))), (q_7, .inl (k_8, 36, .inl (fun _ => 0))), (q_9, .inl (k_10, 4, .inl (fun _ => 0)))] := hD
  refine va_putF (D := (dC, dI)) (ci := 0) (v := .ref q_9) (C := RX0) (T := TX0) (N := 16) hx hb hts iX0 tyX0 tyX0_ok nmX0 hown hK hP hD hS 0 rfl rfl 10 (by decide) (hts _ tw_105) (fun _ h9 => h9) rfl hin rfl (tyX0_ok 10 (by decide)) rfl rfl (Nat.le_of_ble_eq_true rfl) dX0_init_40 (fun H locs hP hD hS => ?_)
  have hP : va_P (dC, dI) vwCl [(h0, .inr (0, [.int 0, .int 0, .int 0, .int 0, .int 0, .int 0, .ref q_1, .ref q_3, .ref q_5, .ref q_7, .ref q_9, .null, .null, .null, .null, .null])), (q_1, .inl (k_2, 6, .inl (fun _ => 0))), (q_3, .inl (k_4, 6, .inl (fun _ => 0))), (q_5, .inl (k_6, 6, .inl (fun _ => 0))), (q_7, .inl (k_8, 36, .inl (fun _ => 0))), (q_9, .inl (k_10, 4, .inl (fun _ => 0)))] H := hP
  have hD : va_D A [(h0, .inr (0, [.int 0, .int 0, .int 0, .int 0, .int 0, .int 0, .ref q_1, .ref q_3, .ref q_5, .ref q_7, .ref q_9, .null, .null, .null, .null, .null])), (q_1, .inl (k_2, 6, .inl (fun _ => 0))), (q_3, .inl (k_4, 6, .inl (fun _ => 0))), (q_5, .inl (k_6, 6, .inl (fun _ => 0))), (q_7, .inl (k_8, 36, .inl (fun _ => 0))), (q_9, .inl (k_10, 4, .inl (fun _ => 0)))] := hD
  refine lv_aload_n hx hb dX0_init_43 rfl (lv_at hl 0 rfl) ?_
  refine lv_iconst (v := 4) hx hb dX0_init_44 (by decide) ?_
  refine va_newa (D := (dC, dI)) (a0 := (4, .inl (fun _ => 0))) (N' := 4) (ty := .int) (atype := .int) hx hb (hts _ tw_154) rfl hK hP hD hS hA (fun _ => rfl) (by decide) (by decide) (Nat.le_of_ble_eq_true rfl) (Nat.le_of_ble_eq_true rfl) (Nat.le_of_ble_eq_true rfl) dX0_init_45 (fun q_11 k_12 H hK hP hD hS => ?_)
  have hK : va_K (dC, dI) vwCl [(k_2, .int), (k_4, .int), (k_6, .int), (k_8, .int), (k_10, .int), (k_12, .int)] s := hK
  have hP : va_P (dC, dI) vwCl [(h0, .inr (0, [.int 0, .int 0, .int 0, .int 0, .int 0, .int 0, .ref q_1, .ref q_3, .ref q_5, .ref q_7, .ref q_9, .null, .null, .null, .null, .null])), (q_1, .inl (k_2, 6, .inl (fun _ => 0))), (q_3, .inl (k_4, 6, .inl (fun _ => 0))), (q_5, .inl (k_6, 6, .inl (fun _ => 0))), (q_7, .inl (k_8, 36, .inl (fun _ => 0))), (q_9, .inl (k_10, 4, .inl (fun _ => 0))), (q_11, .inl (k_12, 4, .inl (fun _ => 0)))] H := hP
  have hD : va_D A [(h0, .inr (0, [.int 0, .int 0, .int 0, .int 0, .int 0, .int 0, .ref q_1, .ref q_3, .ref q_5, .ref q_7, .ref q_9, .null, .null, .null, .null, .null])), (q_1, .inl (k_2, 6, .inl (fun _ => 0))), (q_3, .inl (k_4, 6, .inl (fun _ => 0))), (q_5, .inl (k_6, 6, .inl (fun _ => 0))), (q_7, .inl (k_8, 36, .inl (fun _ => 0))), (q_9, .inl (k_10, 4, .inl (fun _ => 0))), (q_11, .inl (k_12, 4, .inl (fun _ => 0)))] := hD
  refine va_putF (D := (dC, dI)) (ci := 0) (v := .ref q_11) (C := RX0) (T := TX0) (N := 16) hx hb hts iX0 tyX0 tyX0_ok nmX0 hown hK hP hD hS 0 rfl rfl 11 (by decide) (hts _ tw_108) (fun _ h9 => h9) rfl hin rfl (tyX0_ok 11 (by decide)) rfl rfl (Nat.le_of_ble_eq_true rfl) dX0_init_47 (fun H locs hP hD hS => ?_)
  have hP : va_P (dC, dI) vwCl [(h0, .inr (0, [.int 0, .int 0, .int 0, .int 0, .int 0, .int 0, .ref q_1, .ref q_3, .ref q_5, .ref q_7, .ref q_9, .ref q_11, .null, .null, .null, .null])), (q_1, .inl (k_2, 6, .inl (fun _ => 0))), (q_3, .inl (k_4, 6, .inl (fun _ => 0))), (q_5, .inl (k_6, 6, .inl (fun _ => 0))), (q_7, .inl (k_8, 36, .inl (fun _ => 0))), (q_9, .inl (k_10, 4, .inl (fun _ => 0))), (q_11, .inl (k_12, 4, .inl (fun _ => 0)))] H := hP
  have hD : va_D A [(h0, .inr (0, [.int 0, .int 0, .int 0, .int 0, .int 0, .int 0, .ref q_1, .ref q_3, .ref q_5, .ref q_7, .ref q_9, .ref q_11, .null, .null, .null, .null])), (q_1, .inl (k_2, 6, .inl (fun _ => 0))), (q_3, .inl (k_4, 6, .inl (fun _ => 0))), (q_5, .inl (k_6, 6, .inl (fun _ => 0))), (q_7, .inl (k_8, 36, .inl (fun _ => 0))), (q_9, .inl (k_10, 4, .inl (fun _ => 0))), (q_11, .inl (k_12, 4, .inl (fun _ => 0)))] := hD
  refine lv_aload_n hx hb dX0_init_50 rfl (lv_at hl 0 rfl) ?_
  refine lv_bipush (v := 6) hx hb dX0_init_51 (by decide) ?_
  refine va_newa (D := (dC, dI)) (a0 := (6, .inl (fun _ => 0))) (N' := 6) (ty := .int) (atype := .int) hx hb (hts _ tw_154) rfl hK hP hD hS hA (fun _ => rfl) (by decide) (by decide) (Nat.le_of_ble_eq_true rfl) (Nat.le_of_ble_eq_true rfl) (Nat.le_of_ble_eq_true rfl) dX0_init_53 (fun q_13 k_14 H hK hP hD hS => ?_)
  have hK : va_K (dC, dI) vwCl [(k_2, .int), (k_4, .int), (k_6, .int), (k_8, .int), (k_10, .int), (k_12, .int), (k_14, .int)] s := hK
  have hP : va_P (dC, dI) vwCl [(h0, .inr (0, [.int 0, .int 0, .int 0, .int 0, .int 0, .int 0, .ref q_1, .ref q_3, .ref q_5, .ref q_7, .ref q_9, .ref q_11, .null, .null, .null, .null])), (q_1, .inl (k_2, 6, .inl (fun _ => 0))), (q_3, .inl (k_4, 6, .inl (fun _ => 0))), (q_5, .inl (k_6, 6, .inl (fun _ => 0))), (q_7, .inl (k_8, 36, .inl (fun _ => 0))), (q_9, .inl (k_10, 4, .inl (fun _ => 0))), (q_11, .inl (k_12, 4, .inl (fun _ => 0))), (q_13, .inl (k_14, 6, .inl (fun _ => 0)))] H := hP
  have hD : va_D A [(h0, .inr (0, [.int 0, .int 0, .int 0, .int 0, .int 0, .int 0, .ref q_1, .ref q_3, .ref q_5, .ref q_7, .ref q_9, .ref q_11, .null, .null, .null, .null])), (q_1, .inl (k_2, 6, .inl (fun _ => 0))), (q_3, .inl (k_4, 6, .inl (fun _ => 0))), (q_5, .inl (k_6, 6, .inl (fun _ => 0))), (q_7, .inl (k_8, 36, .inl (fun _ => 0))), (q_9, .inl (k_10, 4, .inl (fun _ => 0))), (q_11, .inl (k_12, 4, .inl (fun _ => 0))), (q_13, .inl (k_14, 6, .inl (fun _ => 0)))] := hD
  refine va_putF (D := (dC, dI)) (ci := 0) (v := .ref q_13) (C := RX0) (T := TX0) (N := 16) hx hb hts iX0 tyX0 tyX0_ok nmX0 hown hK hP hD hS 0 rfl rfl 12 (by decide) (hts _ tw_111) (fun _ h9 => h9) rfl hin rfl (tyX0_ok 12 (by decide)) rfl rfl (Nat.le_of_ble_eq_true rfl) dX0_init_55 (fun H locs hP hD hS => ?_)
  have hP : va_P (dC, dI) vwCl [(h0, .inr (0, [.int 0, .int 0, .int 0, .int 0, .int 0, .int 0, .ref q_1, .ref q_3, .ref q_5, .ref q_7, .ref q_9, .ref q_11, .ref q_13, .null, .null, .null])), (q_1, .inl (k_2, 6, .inl (fun _ => 0))), (q_3, .inl (k_4, 6, .inl (fun _ => 0))), (q_5, .inl (k_6, 6, .inl (fun _ => 0))), (q_7, .inl (k_8, 36, .inl (fun _ => 0))), (q_9, .inl (k_10, 4, .inl (fun _ => 0))), (q_11, .inl (k_12, 4, .inl (fun _ => 0))), (q_13, .inl (k_14, 6, .inl (fun _ => 0)))] H := hP
  have hD : va_D A [(h0, .inr (0, [.int 0, .int 0, .int 0, .int 0, .int 0, .int 0, .ref q_1, .ref q_3, .ref q_5, .ref q_7, .ref q_9, .ref q_11, .ref q_13, .null, .null, .null])), (q_1, .inl (k_2, 6, .inl (fun _ => 0))), (q_3, .inl (k_4, 6, .inl (fun _ => 0))), (q_5, .inl (k_6, 6, .inl (fun _ => 0))), (q_7, .inl (k_8, 36, .inl (fun _ => 0))), (q_9, .inl (k_10, 4, .inl (fun _ => 0))), (q_11, .inl (k_12, 4, .inl (fun _ => 0))), (q_13, .inl (k_14, 6, .inl (fun _ => 0)))] := hD
  refine lv_aload_n hx hb dX0_init_58 rfl (lv_at hl 0 rfl) ?_
  refine lv_bipush (v := 6) hx hb dX0_init_59 (by decide) ?_
  refine va_newa (D := (dC, dI)) (a0 := (6, .inl (fun _ => 0))) (N' := 6) (ty := .int) (atype := .int) hx hb (hts _ tw_154) rfl hK hP hD hS hA (fun _ => rfl) (by decide) (by decide) (Nat.le_of_ble_eq_true rfl) (Nat.le_of_ble_eq_true rfl) (Nat.le_of_ble_eq_true rfl) dX0_init_61 (fun q_15 k_16 H hK hP hD hS => ?_)
  have hK : va_K (dC, dI) vwCl [(k_2, .int), (k_4, .int), (k_6, .int), (k_8, .int), (k_10, .int), (k_12, .int), (k_14, .int), (k_16, .int)] s := hK
  have hP : va_P (dC, dI) vwCl [(h0, .inr (0, [.int 0, .int 0, .int 0, .int 0, .int 0, .int 0, .ref q_1, .ref q_3, .ref q_5, .ref q_7, .ref q_9, .ref q_11, .ref q_13, .null, .null, .null])), (q_1, .inl (k_2, 6, .inl (fun _ => 0))), (q_3, .inl (k_4, 6, .inl (fun _ => 0))), (q_5, .inl (k_6, 6, .inl (fun _ => 0))), (q_7, .inl (k_8, 36, .inl (fun _ => 0))), (q_9, .inl (k_10, 4, .inl (fun _ => 0))), (q_11, .inl (k_12, 4, .inl (fun _ => 0))), (q_13, .inl (k_14, 6, .inl (fun _ => 0))), (q_15, .inl (k_16, 6, .inl (fun _ => 0)))] H := hP
  have hD : va_D A [(h0, .inr (0, [.int 0, .int 0, .int 0, .int 0, .int 0, .int 0, .ref q_1, .ref q_3, .ref q_5, .ref q_7, .ref q_9, .ref q_11, .ref q_13, .null, .null, .null])), (q_1, .inl (k_2, 6, .inl (fun _ => 0))), (q_3, .inl (k_4, 6, .inl (fun _ => 0))), (q_5, .inl (k_6, 6, .inl (fun _ => 0))), (q_7, .inl (k_8, 36, .inl (fun _ => 0))), (q_9, .inl (k_10, 4, .inl (fun _ => 0))), (q_11, .inl (k_12, 4, .inl (fun _ => 0))), (q_13, .inl (k_14, 6, .inl (fun _ => 0))), (q_15, .inl (k_16, 6, .inl (fun _ => 0)))] := hD
  refine va_putF (D := (dC, dI)) (ci := 0) (v := .ref q_15) (C := RX0) (T := TX0) (N := 16) hx hb hts iX0 tyX0 tyX0_ok nmX0 hown hK hP hD hS 0 rfl rfl 13 (by decide) (hts _ tw_115) (fun _ h9 => h9) rfl hin rfl (tyX0_ok 13 (by decide)) rfl rfl (Nat.le_of_ble_eq_true rfl) dX0_init_63 (fun H locs hP hD hS => ?_)
  have hP : va_P (dC, dI) vwCl [(h0, .inr (0, [.int 0, .int 0, .int 0, .int 0, .int 0, .int 0, .ref q_1, .ref q_3, .ref q_5, .ref q_7, .ref q_9, .ref q_11, .ref q_13, .ref q_15, .null, .null])), (q_1, .inl (k_2, 6, .inl (fun _ => 0))), (q_3, .inl (k_4, 6, .inl (fun _ => 0))), (q_5, .inl (k_6, 6, .inl (fun _ => 0))), (q_7, .inl (k_8, 36, .inl (fun _ => 0))), (q_9, .inl (k_10, 4, .inl (fun _ => 0))), (q_11, .inl (k_12, 4, .inl (fun _ => 0))), (q_13, .inl (k_14, 6, .inl (fun _ => 0))), (q_15, .inl (k_16, 6, .inl (fun _ => 0)))] H := hP
  have hD : va_D A [(h0, .inr (0, [.int 0, .int 0, .int 0, .int 0, .int 0, .int 0, .ref q_1, .ref q_3, .ref q_5, .ref q_7, .ref q_9, .ref q_11, .ref q_13, .ref q_15, .null, .null])), (q_1, .inl (k_2, 6, .inl (fun _ => 0))), (q_3, .inl (k_4, 6, .inl (fun _ => 0))), (q_5, .inl (k_6, 6, .inl (fun _ => 0))), (q_7, .inl (k_8, 36, .inl (fun _ => 0))), (q_9, .inl (k_10, 4, .inl (fun _ => 0))), (q_11, .inl (k_12, 4, .inl (fun _ => 0))), (q_13, .inl (k_14, 6, .inl (fun _ => 0))), (q_15, .inl (k_16, 6, .inl (fun _ => 0)))] := hD
  refine lv_aload_n hx hb dX0_init_66 rfl (lv_at hl 0 rfl) ?_
  refine lv_bipush (v := 49) hx hb dX0_init_67 (by decide) ?_
  refine va_newa (D := (dC, dI)) (a0 := (49, .inl (fun _ => 0))) (N' := 49) (ty := .int) (atype := .int) hx hb (hts _ tw_154) rfl hK hP hD hS hA (fun _ => rfl) (by decide) (by decide) (Nat.le_of_ble_eq_true rfl) (Nat.le_of_ble_eq_true rfl) (Nat.le_of_ble_eq_true rfl) dX0_init_69 (fun q_17 k_18 H hK hP hD hS => ?_)
  have hK : va_K (dC, dI) vwCl [(k_2, .int), (k_4, .int), (k_6, .int), (k_8, .int), (k_10, .int), (k_12, .int), (k_14, .int), (k_16, .int), (k_18, .int)] s := hK
  have hP : va_P (dC, dI) vwCl [(h0, .inr (0, [.int 0, .int 0, .int 0, .int 0, .int 0, .int 0, .ref q_1, .ref q_3, .ref q_5, .ref q_7, .ref q_9, .ref q_11, .ref q_13, .ref q_15, .null, .null])), (q_1, .inl (k_2, 6, .inl (fun _ => 0))), (q_3, .inl (k_4, 6, .inl (fun _ => 0))), (q_5, .inl (k_6, 6, .inl (fun _ => 0))), (q_7, .inl (k_8, 36, .inl (fun _ => 0))), (q_9, .inl (k_10, 4, .inl (fun _ => 0))), (q_11, .inl (k_12, 4, .inl (fun _ => 0))), (q_13, .inl (k_14, 6, .inl (fun _ => 0))), (q_15, .inl (k_16, 6, .inl (fun _ => 0))), (q_17, .inl (k_18, 49, .inl (fun _ => 0)))] H := hP
  have hD : va_D A [(h0, .inr (0, [.int 0, .int 0, .int 0, .int 0, .int 0, .int 0, .ref q_1, .ref q_3, .ref q_5, .ref q_7, .ref q_9, .ref q_11, .ref q_13, .ref q_15, .null, .null])), (q_1, .inl (k_2, 6, .inl (fun _ => 0))), (q_3, .inl (k_4, 6, .inl (fun _ => 0))), (q_5, .inl (k_6, 6, .inl (fun _ => 0))), (q_7, .inl (k_8, 36, .inl (fun _ => 0))), (q_9, .inl (k_10, 4, .inl (fun _ => 0))), (q_11, .inl (k_12, 4, .inl (fun _ => 0))), (q_13, .inl (k_14, 6, .inl (fun _ => 0))), (q_15, .inl (k_16, 6, .inl (fun _ => 0))), (q_17, .inl (k_18, 49, .inl (fun _ => 0)))] := hD
  refine va_putF (D := (dC, dI)) (ci := 0) (v := .ref q_17) (C := RX0) (T := TX0) (N := 16) hx hb hts iX0 tyX0 tyX0_ok nmX0 hown hK hP hD hS 0 rfl rfl 14 (by decide) (hts _ tw_119) (fun _ h9 => h9) rfl hin rfl (tyX0_ok 14 (by decide)) rfl rfl (Nat.le_of_ble_eq_true rfl) dX0_init_71 (fun H locs hP hD hS => ?_)
  have hP : va_P (dC, dI) vwCl [(h0, .inr (0, [.int 0, .int 0, .int 0, .int 0, .int 0, .int 0, .ref q_1, .ref q_3, .ref q_5, .ref q_7, .ref q_9, .ref q_11, .ref q_13, .ref q_15, .ref q_17, .null])), (q_1, .inl (k_2, 6, .inl (fun _ => 0))), (q_3, .inl (k_4, 6, .inl (fun _ => 0))), (q_5, .inl (k_6, 6, .inl (fun _ => 0))), (q_7, .inl (k_8, 36, .inl (fun _ => 0))), (q_9, .inl (k_10, 4, .inl (fun _ => 0))), (q_11, .inl (k_12, 4, .inl (fun _ => 0))), (q_13, .inl (k_14, 6, .inl (fun _ => 0))), (q_15, .inl (k_16, 6, .inl (fun _ => 0))), (q_17, .inl (k_18, 49, .inl (fun _ => 0)))] H := hP
  have hD : va_D A [(h0, .inr (0, [.int 0, .int 0, .int 0, .int 0, .int 0, .int 0, .ref q_1, .ref q_3, .ref q_5, .ref q_7, .ref q_9, .ref q_11, .ref q_13, .ref q_15, .ref q_17, .null])), (q_1, .inl (k_2, 6, .inl (fun _ => 0))), (q_3, .inl (k_4, 6, .inl (fun _ => 0))), (q_5, .inl (k_6, 6, .inl (fun _ => 0))), (q_7, .inl (k_8, 36, .inl (fun _ => 0))), (q_9, .inl (k_10, 4, .inl (fun _ => 0))), (q_11, .inl (k_12, 4, .inl (fun _ => 0))), (q_13, .inl (k_14, 6, .inl (fun _ => 0))), (q_15, .inl (k_16, 6, .inl (fun _ => 0))), (q_17, .inl (k_18, 49, .inl (fun _ => 0)))] := hD
  refine lv_aload_n hx hb dX0_init_74 rfl (lv_at hl 0 rfl) ?_
  refine lv_bipush (v := 61) hx hb dX0_init_75 (by decide) ?_
  refine va_newa (D := (dC, dI)) (a0 := (61, .inl (fun _ => 0))) (N' := 61) (ty := .boolean) (atype := .boolean) hx hb (hts _ tw_155) rfl hK hP hD hS hA (fun _ => rfl) (by decide) (by decide) (Nat.le_of_ble_eq_true rfl) (Nat.le_of_ble_eq_true rfl) (Nat.le_of_ble_eq_true rfl) dX0_init_77 (fun q_19 k_20 H hK hP hD hS => ?_)
  have hK : va_K (dC, dI) vwCl [(k_2, .int), (k_4, .int), (k_6, .int), (k_8, .int), (k_10, .int), (k_12, .int), (k_14, .int), (k_16, .int), (k_18, .int), (k_20, .boolean)] s := hK
  have hP : va_P (dC, dI) vwCl [(h0, .inr (0, [.int 0, .int 0, .int 0, .int 0, .int 0, .int 0, .ref q_1, .ref q_3, .ref q_5, .ref q_7, .ref q_9, .ref q_11, .ref q_13, .ref q_15, .ref q_17, .null])), (q_1, .inl (k_2, 6, .inl (fun _ => 0))), (q_3, .inl (k_4, 6, .inl (fun _ => 0))), (q_5, .inl (k_6, 6, .inl (fun _ => 0))), (q_7, .inl (k_8, 36, .inl (fun _ => 0))), (q_9, .inl (k_10, 4, .inl (fun _ => 0))), (q_11, .inl (k_12, 4, .inl (fun _ => 0))), (q_13, .inl (k_14, 6, .inl (fun _ => 0))), (q_15, .inl (k_16, 6, .inl (fun _ => 0))), (q_17, .inl (k_18, 49, .inl (fun _ => 0))), (q_19, .inl (k_20, 61, .inl (fun _ => 0)))] H := hP
  have hD : va_D A [(h0, .inr (0, [.int 0, .int 0, .int 0, .int 0, .int 0, .int 0, .ref q_1, .ref q_3, .ref q_5, .ref q_7, .ref q_9, .ref q_11, .ref q_13, .ref q_15, .ref q_17, .null])), (q_1, .inl (k_2, 6, .inl (fun _ => 0))), (q_3, .inl (k_4, 6, .inl (fun _ => 0))), (q_5, .inl (k_6, 6, .inl (fun _ => 0))), (q_7, .inl (k_8, 36, .inl (fun _ => 0))), (q_9, .inl (k_10, 4, .inl (fun _ => 0))), (q_11, .inl (k_12, 4, .inl (fun _ => 0))), (q_13, .inl (k_14, 6, .inl (fun _ => 0))), (q_15, .inl (k_16, 6, .inl (fun _ => 0))), (q_17, .inl (k_18, 49, .inl (fun _ => 0))), (q_19, .inl (k_20, 61, .inl (fun _ => 0)))] := hD
  refine va_putF (D := (dC, dI)) (ci := 0) (v := .ref q_19) (C := RX0) (T := TX0) (N := 16) hx hb hts iX0 tyX0 tyX0_ok nmX0 hown hK hP hD hS 0 rfl rfl 15 (by decide) (hts _ tw_120) (fun _ h9 => h9) rfl hin rfl (tyX0_ok 15 (by decide)) rfl rfl (Nat.le_of_ble_eq_true rfl) dX0_init_79 (fun H locs hP hD hS => ?_)
  have hP : va_P (dC, dI) vwCl [(h0, .inr (0, [.int 0, .int 0, .int 0, .int 0, .int 0, .int 0, .ref q_1, .ref q_3, .ref q_5, .ref q_7, .ref q_9, .ref q_11, .ref q_13, .ref q_15, .ref q_17, .ref q_19])), (q_1, .inl (k_2, 6, .inl (fun _ => 0))), (q_3, .inl (k_4, 6, .inl (fun _ => 0))), (q_5, .inl (k_6, 6, .inl (fun _ => 0))), (q_7, .inl (k_8, 36, .inl (fun _ => 0))), (q_9, .inl (k_10, 4, .inl (fun _ => 0))), (q_11, .inl (k_12, 4, .inl (fun _ => 0))), (q_13, .inl (k_14, 6, .inl (fun _ => 0))), (q_15, .inl (k_16, 6, .inl (fun _ => 0))), (q_17, .inl (k_18, 49, .inl (fun _ => 0))), (q_19, .inl (k_20, 61, .inl (fun _ => 0)))] H := hP
  have hD : va_D A [(h0, .inr (0, [.int 0, .int 0, .int 0, .int 0, .int 0, .int 0, .ref q_1, .ref q_3, .ref q_5, .ref q_7, .ref q_9, .ref q_11, .ref q_13, .ref q_15, .ref q_17, .ref q_19])), (q_1, .inl (k_2, 6, .inl (fun _ => 0))), (q_3, .inl (k_4, 6, .inl (fun _ => 0))), (q_5, .inl (k_6, 6, .inl (fun _ => 0))), (q_7, .inl (k_8, 36, .inl (fun _ => 0))), (q_9, .inl (k_10, 4, .inl (fun _ => 0))), (q_11, .inl (k_12, 4, .inl (fun _ => 0))), (q_13, .inl (k_14, 6, .inl (fun _ => 0))), (q_15, .inl (k_16, 6, .inl (fun _ => 0))), (q_17, .inl (k_18, 49, .inl (fun _ => 0))), (q_19, .inl (k_20, 61, .inl (fun _ => 0)))] := hD
  have hP9 := hP.sub (ws' := [(h0, .inr (0, [.int 0, .int 0, .int 0, .int 0, .int 0, .int 0, .ref q_1, .ref q_3, .ref q_5, .ref q_7, .ref q_9, .ref q_11, .ref q_13, .ref q_15, .ref q_17, .ref q_19])), (q_1, .inl (k_2, 6, .inl (fun _ => 0))), (q_3, .inl (k_4, 6, .inl (fun _ => 0))), (q_5, .inl (k_6, 6, .inl (fun _ => 0))), (q_7, .inl (k_8, 36, .inl (fun _ => 0))), (q_9, .inl (k_10, 4, .inl (fun _ => 0))), (q_11, .inl (k_12, 4, .inl (fun _ => 0))), (q_13, .inl (k_14, 6, .inl (fun _ => 0))), (q_15, .inl (k_16, 6, .inl (fun _ => 0))), (q_17, .inl (k_18, 49, .inl (fun _ => 0))), (q_19, .inl (k_20, 61, .inl (fun _ => 0)))]) [0, 1, 2, 3, 4, 5, 6, 7, 8, 9, 10] rfl
  have hD9 := hD.sub (ws' := [(h0, .inr (0, [.int 0, .int 0, .int 0, .int 0, .int 0, .int 0, .ref q_1, .ref q_3, .ref q_5, .ref q_7, .ref q_9, .ref q_11, .ref q_13, .ref q_15, .ref q_17, .ref q_19])), (q_1, .inl (k_2, 6, .inl (fun _ => 0))), (q_3, .inl (k_4, 6, .inl (fun _ => 0))), (q_5, .inl (k_6, 6, .inl (fun _ => 0))), (q_7, .inl (k_8, 36, .inl (fun _ => 0))), (q_9, .inl (k_10, 4, .inl (fun _ => 0))), (q_11, .inl (k_12, 4, .inl (fun _ => 0))), (q_13, .inl (k_14, 6, .inl (fun _ => 0))), (q_15, .inl (k_16, 6, .inl (fun _ => 0))), (q_17, .inl (k_18, 49, .inl (fun _ => 0))), (q_19, .inl (k_20, 61, .inl (fun _ => 0)))]) [0, 1, 2, 3, 4, 5, 6, 7, 8, 9, 10] (by decide) rfl
  have hK9 := hK.sub (tys' := [(k_2, .int), (k_4, .int), (k_6, .int), (k_8, .int), (k_10, .int), (k_12, .int), (k_14, .int), (k_16, .int), (k_18, .int), (k_20, .boolean)]) [0, 1, 2, 3, 4, 5, 6, 7, 8, 9] rfl
  refine W.widen (k := 10) (n := 184) (Nat.le_of_ble_eq_true rfl) (Nat.le_of_ble_eq_true rfl) ?_
  exact W.vret hx hb hr (fun t ht hW => ⟨⟨(), rfl, trivial, ⟨q_1, k_2, q_3, k_4, q_5, k_6, q_7, k_8, q_9, k_10, q_11, k_12, q_13, k_14, q_15, k_16, q_17, k_18, q_19, k_20, by rw [ht]; exact hP9, va_K.moved hW.alike hK9, hD9⟩⟩, hS.F ht⟩) hS.2.2 dX0_init_82
set_option maxHeartbeats 4000000 in
set_option maxRecDepth 100000 in
theorem t_X1_read (l : Launch) (dC : Nat → ClassId) (dI : Nat → Nat → Nat) (tys : List (ClassId × FieldType)) (κ : tK) (B : Nat) (ws : va_W) (hT : Ty κ tys B ws) (aK aV : Nat → Nat) (a0 : Nat) (k_a0 : κ a0 = some 1) (a1 : Nat) (k_a1 : κ a1 = some 9) (sz : Nat) : Met l yX1_read (ws_u yX1_read cX1_read 3 (some (.object "BoyBishop$Choir"))) ({ frames := 7, cells := 11, slots := 200, locals := 159 }) (va_Pc [.ref a0, .ref a1] (cPreS (dC, dI) aK aV tys ws sz)) (va_Qq (fun (r : Option Nat) (u : va_W × tK × List (ClassId × FieldType)) => (∀ q : Nat, r = some q → u.2.1 q = some 0) ∧ Ty u.2.1 u.2.2 B u.1 ∧ Ext κ u.2.1 ∧ SubT tys u.2.2 ∧ Sm [(0, 0), (0, 1), (0, 2), (0, 3), (0, 4), (0, 5), (1, 0), (9, 2), (9, 3)] [20, 21, 22, 23, 24, 25, 26, 27, 28, 29] κ ws u.1) (fun u t => cPost (dC, dI) u.2.2 u.1 (va_A ws sz) t) (va_A ws sz)) 11 200 (va_A ws sz) := by
  refine Met.ofW (cc := cX1_read) (maxL := 3) (ret := (some (.object "BoyBishop$Choir"))) (by decide) rfl ?_
  intro p e s m args below meth c s₁ B0 hml hv
  obtain ⟨rfl, ⟨hsz, hP, hK, hD0, hE⟩, hStr, hR⟩ := hv
  have hx := B0.exec
  have hb := B0.bytes
  have hr := B0.returns
  have hts0 := atoms_spec (ws := ws_u yX1_read cX1_read 3 (some (.object "BoyBishop$Choir"))) B0.pre
  have hts : ∀ w ∈ gT, w.before _ s = true := fun w h => hts0 w (List.mem_cons_of_mem _ h)
  have hown : s.vm.findClass RX1 = some m.cls := findClass_of_methodNamed B0.named
  have hlocks := B0.notSynchronized
  subst hsz
  have hD := hD0.self (sz := s.heap.size)
  generalize hAe : va_A ws s.heap.size = A at hD hStr ⊢
  have hA : ∀ q : Nat, s.heap.size ≤ q → A q := fun q h => by rw [← hAe]; exact Or.inr h
  have hw : tW (dC, dI) tys κ B A s ws s.heap [] := ⟨hK, hP, hD, va_S.rf, hT⟩
  have hM : Sm [(0, 0), (0, 1), (0, 2), (0, 3), (0, 4), (0, 5), (1, 0), (9, 2), (9, 3)] [20, 21, 22, 23, 24, 25, 26, 27, 28, 29] κ ws ws := Sm.rf
  clear hP hK hD hD0 hts0
  have hl := lv_entry ([.ref a0, .ref a1]) (n := 3) (Nat.le_of_ble_eq_true rfl)
  rw [lg_entry_eq]
  generalize (lg_sl ([.ref a0, .ref a1]) ++ List.replicate (3 - (lg_sl ([.ref a0, .ref a1])).length) Slot.unset).toArray = ls at hl ⊢
  have hl : lv_has ls 3 [(0, .ref a0), (1, .ref a1)] := hl
  refine t_start (fun QQ hQ => ?_)
  refine lv_aload_n hx hb dX1_read_0 rfl (lv_at hl 0 rfl) ?_
  refine t_getr (k1 := 0) (ci := 1) (C := RX1) (T := TX1) (N := 1) hx hb hts iX1 hown hw k_a0 rfl rfl rfl 0 (by decide) (hts _ tw_156) (fun _ h9 => h9) dX1_read_1 rfl (fun v1 k_v1 f_a0_X1_0 => ?_)
  refine t_callv (va_runV (As := []) (rest := []) ⟨hx, hb, hml, hown, hts⟩ (t_X0_clear l dC dI tys κ B ws hw.2.2.2.2 v1 k_v1 s.heap.size) (cwV 0 hts (gUV tw_484 tw_485 tw_486 tw_4 tw_487) rfl rfl rfl (by decide +kernel) ⟨(Nat.le_of_ble_eq_true rfl), (Nat.le_of_ble_eq_true rfl)⟩) ⟨cPre.blind, t_recv hw (ci := 0) k_v1 rfl rfl, cPre.use hw.2.1 hw.1 hw.2.2.1 hE⟩ rfl rfl hl.1 rfl (lv_room (Nat.le_of_ble_eq_true rfl)) dX1_read_4 ⟨(Nat.le_of_ble_eq_true rfl), (Nat.le_of_ble_eq_true rfl)⟩) hw hA (fun _ h => h.1) (fun w_1 H locs hp hw => ?_)
  obtain ⟨_, hm⟩ := hp
  have hM := hM.trans hm (by decide) (by decide)
  have f_a0_X1_0 := hm.1 _ _ _ _ f_a0_X1_0 (by decide)
  refine lv_aload_n hx hb dX1_read_7 rfl (lv_at hl 1 rfl) ?_
  refine t_callv (va_runV (As := []) (rest := []) ⟨hx, hb, hml, hown, hts⟩ (t_X9_startReading l dC dI tys κ B w_1 hw.2.2.2.2 a1 k_a1 H.size) (cwV 0 hts (gUV tw_492 tw_493 tw_494 tw_2 tw_495) rfl rfl rfl (by decide +kernel) ⟨(Nat.le_of_ble_eq_true rfl), (Nat.le_of_ble_eq_true rfl)⟩) ⟨cPre.blind, t_recv hw (ci := 9) k_a1 rfl rfl, cPre.use hw.2.1 hw.1 hw.2.2.1 hE⟩ rfl rfl hl.1 rfl (lv_room (Nat.le_of_ble_eq_true rfl)) dX1_read_8 ⟨(Nat.le_of_ble_eq_true rfl), (Nat.le_of_ble_eq_true rfl)⟩) hw hA (fun _ h => h.1) (fun w_2 H locs hp hw => ?_)
  obtain ⟨_, hm⟩ := hp
  have hM := hM.trans hm (by decide) (by decide)
  have f_a0_X1_0 := hm.1 _ _ _ _ f_a0_X1_0 (by decide)
  refine lv_iconst (v := 0) hx hb dX1_read_11 (by decide) ?_
  refine lv_istore_n (lv' := [(2, .int 0), (0, .ref a0), (1, .ref a1)]) hx hb dX1_read_12 rfl hl (by decide) rfl (fun ls hl => ?_)
  have J13 : ∀ (n : Nat) (H : Heap) (locs : List Loc) (ls : Array Slot), (∃ (w13 : va_W) (p13_l2 : Int32), tW (dC, dI) tys κ B A s w13 H locs ∧ Sm [(0, 0), (0, 1), (0, 2), (0, 3), (0, 4), (0, 5), (1, 0), (9, 2), (9, 3)] [20, 21, 22, 23, 24, 25, 26, 27, 28, 29] κ ws w13 ∧ 0 ≤ p13_l2.toInt ∧ p13_l2.toInt ≤ 41 ∧ fld w13 a0 1 0 (.ref v1) ∧ lv_has ls 3 [(0, .ref a0), (1, .ref a1), (2, .int p13_l2)] ∧ (41 - p13_l2.toInt).toNat = n) → W p l e (headSpec (ws_u yX1_read cX1_read 3 (some (.object "BoyBishop$Choir"))) ({ frames := 7, cells := 11, slots := 200, locals := 159 })).room s m ([.ref a0, .ref a1] : List Value).toArray below meth c H locs 0 0 QQ (F0 m 13 ls []) := by
    refine loopT _ ?_
    intro n_13 H locs ls hI ih_13
    obtain ⟨w13, p13_l2, hw, hM, l_p13_l2, h_p13_l2, f_a0_X1_0, hl, hn_13⟩ := hI
    refine lv_iload_n hx hb dX1_read_13 rfl (lv_at hl 2 rfl) ?_
    refine lv_bipush (v := 40) hx hb dX1_read_14 (by decide) ?_
    have J66 : ∀ (H : Heap) (locs : List Loc) (ls : Array Slot) (w66 : va_W), tW (dC, dI) tys κ B A s w66 H locs → Sm [(0, 0), (0, 1), (0, 2), (0, 3), (0, 4), (0, 5), (1, 0), (9, 2), (9, 3)] [20, 21, 22, 23, 24, 25, 26, 27, 28, 29] κ ws w66 → fld w66 a0 1 0 (.ref v1) → lv_has ls 3 [(0, .ref a0), (1, .ref a1), (2, .int p13_l2)] → W p l e (headSpec (ws_u yX1_read cX1_read 3 (some (.object "BoyBishop$Choir"))) ({ frames := 7, cells := 11, slots := 200, locals := 159 })).room s m ([.ref a0, .ref a1] : List Value).toArray below meth c H locs 0 0 QQ (F0 m 66 ls []) := by
      intro H locs ls w66 hw hM f_a0_X1_0 hl
      refine lv_aload_n hx hb dX1_read_66 rfl (lv_at hl 1 rfl) ?_
      refine t_geti (ci := 9) (C := RX9) (T := TX9) (N := 4) hx hb hts iX9 hown hw k_a1 rfl rfl rfl 3 (by decide) (hts _ tw_42) (fun _ h9 => h9) dX1_read_67 rfl (fun v67 l_v67 h_v67 f_a1_X9_3 => ?_)
      have l_v67 : 0 ≤ v67.toInt := l_v67
      have h_v67 : v67.toInt ≤ 3205 := h_v67
      refine lv_if_eq (tgt := 75) hx hb dX1_read_70 (by decide) (fun c_70 => ?_) (fun c_70 => ?_)
      · simp only [fa_lt, fa_le, fa_eq, li_0] at c_70
        refine lv_aload_n hx hb dX1_read_75 rfl (lv_at hl 0 rfl) ?_
        refine t_getk (ci := 1) (C := RX1) (T := TX1) (N := 1) hx hb hts iX1 hown hw rfl 0 (by decide) (hts _ tw_156) (fun _ h9 => h9) dX1_read_76 f_a0_X1_0 ?_
        refine lv_astore_n (lv' := [(2, .ref v1), (0, .ref a0), (1, .ref a1)]) hx hb dX1_read_79 rfl hl (by decide) rfl (fun ls hl => ?_)
        refine lv_aload_n hx hb dX1_read_80 rfl (lv_at hl 0 rfl) ?_
        refine t_callv (va_runV (As := []) (rest := []) ⟨hx, hb, hml, hown, hts⟩ (t_X0_shortenWays l dC dI tys κ B w66 hw.2.2.2.2 v1 k_v1 H.size) (cwV 0 hts (gUV tw_610 tw_611 tw_612 tw_4 tw_613) rfl rfl rfl (by decide +kernel) ⟨(Nat.le_of_ble_eq_true rfl), (Nat.le_of_ble_eq_true rfl)⟩) ⟨cPre.blind, t_recv hw (ci := 0) k_v1 rfl rfl, cPre.use hw.2.1 hw.1 hw.2.2.1 hE⟩ rfl rfl hl.1 rfl (lv_room (Nat.le_of_ble_eq_true rfl)) dX1_read_81 ⟨(Nat.le_of_ble_eq_true rfl), (Nat.le_of_ble_eq_true rfl)⟩) hw hA (fun _ h => h.1) (fun w_3 H locs hp hw => ?_)
        obtain ⟨_, hm⟩ := hp
        have hM := hM.trans hm (by decide) (by decide)
        have f_a0_X1_0 := hm.1 _ _ _ _ f_a0_X1_0 (by decide)
        have f_a1_X9_3 := hm.1 _ _ _ _ f_a1_X9_3 (by decide)
        refine lv_aload_n hx hb dX1_read_84 rfl (lv_at hl 0 rfl) ?_
        refine lv_iconst (v := 1) hx hb dX1_read_85 (by decide) ?_
        refine t_put (ci := 0) (C := RX0) (T := TX0) (N := 16) (v := .int 1) hx hb hts iX0 tyX0 tyX0_ok nmX0 hown hw k_v1 rfl rfl rfl 0 (by decide) (hts _ tw_68) (fun _ h9 => h9) rfl (tyX0_ok 0 (by decide)) rfl rfl (okV.int rfl (by decide) (by decide)) dX1_read_86 (fun w_4 H locs hw u => ?_)
        have hM := hM.up1 u (by decide)
        have f_a0_X1_0 := u.1 _ _ _ _ f_a0_X1_0 (Or.inr (Or.inl (by decide)))
        have f_a1_X9_3 := u.1 _ _ _ _ f_a1_X9_3 (Or.inr (Or.inl (by decide)))
        have f_v1_X0_0 := u.2.2
        refine lv_aload_n hx hb dX1_read_89 rfl (lv_at hl 1 rfl) ?_
        refine va_new (ci := 0) (fs := [.int 0, .int 0, .int 0, .int 0, .int 0, .int 0, .null, .null, .null, .null, .null, .null, .null, .null, .null, .null]) (C := RX0) (T := TX0) (N := 16) hx hb hts iX0 tyX0 tyX0_ok hown (hts _ tw_62) (hts _ tw_63) (hts _ tw_4) hw.1 hw.2.1 hw.2.2.1 hw.2.2.2.1 hA rfl dfX0 (Nat.le_of_ble_eq_true rfl) (Nat.le_of_ble_eq_true rfl) dX1_read_90 (fun v90 H hP hD hS => ?_)
        refine lv_dup hx hb dX1_read_93 rfl ?_
        refine t_callNw (va_runI (As := []) (rest := [.ref v90, .ref a0]) ⟨hx, hb, hml, hown, hts⟩ (c_Choir_init l dC dI v90 H.size) (cwI 0 hts (gU tw_66) rfl rfl rfl (hts _ tw_4) (hts _ tw_64) (hts _ tw_65) rfl (by decide +kernel) ⟨(Nat.le_of_ble_eq_true rfl), (Nat.le_of_ble_eq_true rfl)⟩) ⟨cPre.blind, cPre.use (P_last hP) (hw.1.sub (tys' := []) [] rfl) D_last hE⟩ rfl rfl hl.1 rfl (lv_room (Nat.le_of_ble_eq_true rfl)) dX1_read_94 ⟨(Nat.le_of_ble_eq_true rfl), (Nat.le_of_ble_eq_true rfl)⟩) hP hD hS hA (fun _ t H locs ht hvm hB hj hS => ?_)
        obtain ⟨q0, k0, q1, k1, q2, k2, q3, k3, q4, k4, q5, k5, q6, k6, q7, k7, q8, k8, q9, k9, hP1, hK1, hD1⟩ := hB
        rw [ht] at hP1
        obtain ⟨hP, hD⟩ := hj _ hP1 hD1
        have hK := hw.1.app (va_K.moved hvm.symm hK1)
        have hok : ∀ (i : Nat) (x : Nat × va_E) (k : Nat), ([(v90, .inr (0, [.int 0, .int 0, .int 0, .int 0, .int 0, .int 0, .ref q0, .ref q1, .ref q2, .ref q3, .ref q4, .ref q5, .ref q6, .ref q7, .ref q8, .ref q9])), (q0, .inl (k0, 6, .inl (fun _ => 0))), (q1, .inl (k1, 6, .inl (fun _ => 0))), (q2, .inl (k2, 6, .inl (fun _ => 0))), (q3, .inl (k3, 36, .inl (fun _ => 0))), (q4, .inl (k4, 4, .inl (fun _ => 0))), (q5, .inl (k5, 4, .inl (fun _ => 0))), (q6, .inl (k6, 6, .inl (fun _ => 0))), (q7, .inl (k7, 6, .inl (fun _ => 0))), (q8, .inl (k8, 49, .inl (fun _ => 0))), (q9, .inl (k9, 61, .inl (fun _ => 0)))] : va_W)[i]? = some x → ([0, 20, 21, 22, 23, 24, 25, 26, 27, 28, 29] : List Nat)[i]? = some k → okE (kap κ (kz [(v90, .inr (0, [.int 0, .int 0, .int 0, .int 0, .int 0, .int 0, .ref q0, .ref q1, .ref q2, .ref q3, .ref q4, .ref q5, .ref q6, .ref q7, .ref q8, .ref q9])), (q0, .inl (k0, 6, .inl (fun _ => 0))), (q1, .inl (k1, 6, .inl (fun _ => 0))), (q2, .inl (k2, 6, .inl (fun _ => 0))), (q3, .inl (k3, 36, .inl (fun _ => 0))), (q4, .inl (k4, 4, .inl (fun _ => 0))), (q5, .inl (k5, 4, .inl (fun _ => 0))), (q6, .inl (k6, 6, .inl (fun _ => 0))), (q7, .inl (k7, 6, .inl (fun _ => 0))), (q8, .inl (k8, 49, .inl (fun _ => 0))), (q9, .inl (k9, 61, .inl (fun _ => 0)))] [0, 20, 21, 22, 23, 24, 25, 26, 27, 28, 29])) (tys ++ [(k0, .int), (k1, .int), (k2, .int), (k3, .int), (k4, .int), (k5, .int), (k6, .int), (k7, .int), (k8, .int), (k9, .boolean)]) B k x.2 := by
          intro i x k h1 h2
          match i, h1, h2 with
          | 0, h1, h2 =>
            cases h1; cases h2
            refine Or.inl ⟨rfl, _, rfl, rfl, fun j v hv => ?_⟩
            match j, hv with
            | 0, hv => cases hv; exact okV.int rfl (by decide) (by decide)
            | 1, hv => cases hv; exact okV.int rfl (by decide) (by decide)
            | 2, hv => cases hv; exact okV.int rfl (by decide) (by decide)
            | 3, hv => cases hv; exact okV.int rfl (by decide) (by decide)
            | 4, hv => cases hv; exact okV.int rfl (by decide) (by decide)
            | 5, hv => cases hv; exact okV.int rfl (by decide) (by decide)
            | 6, hv => cases hv; exact okV.ref (k := 20) rfl (growZ_at hD (i := 1) rfl rfl)
            | 7, hv => cases hv; exact okV.ref (k := 21) rfl (growZ_at hD (i := 2) rfl rfl)
            | 8, hv => cases hv; exact okV.ref (k := 22) rfl (growZ_at hD (i := 3) rfl rfl)
            | 9, hv => cases hv; exact okV.ref (k := 23) rfl (growZ_at hD (i := 4) rfl rfl)
            | 10, hv => cases hv; exact okV.ref (k := 24) rfl (growZ_at hD (i := 5) rfl rfl)
            | 11, hv => cases hv; exact okV.ref (k := 25) rfl (growZ_at hD (i := 6) rfl rfl)
            | 12, hv => cases hv; exact okV.ref (k := 26) rfl (growZ_at hD (i := 7) rfl rfl)
            | 13, hv => cases hv; exact okV.ref (k := 27) rfl (growZ_at hD (i := 8) rfl rfl)
            | 14, hv => cases hv; exact okV.ref (k := 28) rfl (growZ_at hD (i := 9) rfl rfl)
            | 15, hv => cases hv; exact okV.ref (k := 29) rfl (growZ_at hD (i := 10) rfl rfl)
            | j + 16, hv => simp at hv
          | 1, h1, h2 => cases h1; cases h2; exact Or.inr (Or.inl ⟨rfl, k0, tys.length + 0, _, by rw [List.getElem?_append_right (by omega), show tys.length + 0 - tys.length = 0 by omega]; rfl, rfl, fun j hj => ⟨i32_lo _, i32_hi _⟩⟩)
          | 2, h1, h2 => cases h1; cases h2; exact Or.inr (Or.inl ⟨rfl, k1, tys.length + 1, _, by rw [List.getElem?_append_right (by omega), show tys.length + 1 - tys.length = 1 by omega]; rfl, rfl, fun j hj => ⟨i32_lo _, i32_hi _⟩⟩)
          | 3, h1, h2 => cases h1; cases h2; exact Or.inr (Or.inl ⟨rfl, k2, tys.length + 2, _, by rw [List.getElem?_append_right (by omega), show tys.length + 2 - tys.length = 2 by omega]; rfl, rfl, fun j hj => ⟨i32_lo _, i32_hi _⟩⟩)
          | 4, h1, h2 => cases h1; cases h2; exact Or.inr (Or.inl ⟨rfl, k3, tys.length + 3, _, by rw [List.getElem?_append_right (by omega), show tys.length + 3 - tys.length = 3 by omega]; rfl, rfl, fun j hj => ⟨i32_lo _, i32_hi _⟩⟩)
          | 5, h1, h2 => cases h1; cases h2; exact Or.inr (Or.inl ⟨rfl, k4, tys.length + 4, _, by rw [List.getElem?_append_right (by omega), show tys.length + 4 - tys.length = 4 by omega]; rfl, rfl, fun j hj => ⟨i32_lo _, i32_hi _⟩⟩)
          | 6, h1, h2 => cases h1; cases h2; exact Or.inr (Or.inl ⟨rfl, k5, tys.length + 5, _, by rw [List.getElem?_append_right (by omega), show tys.length + 5 - tys.length = 5 by omega]; rfl, rfl, fun j hj => ⟨i32_lo _, i32_hi _⟩⟩)
          | 7, h1, h2 => cases h1; cases h2; exact Or.inr (Or.inl ⟨rfl, k6, tys.length + 6, _, by rw [List.getElem?_append_right (by omega), show tys.length + 6 - tys.length = 6 by omega]; rfl, rfl, fun j hj => ⟨i32_lo _, i32_hi _⟩⟩)
          | 8, h1, h2 => cases h1; cases h2; exact Or.inr (Or.inl ⟨rfl, k7, tys.length + 7, _, by rw [List.getElem?_append_right (by omega), show tys.length + 7 - tys.length = 7 by omega]; rfl, rfl, fun j hj => ⟨i32_lo _, i32_hi _⟩⟩)
          | 9, h1, h2 => cases h1; cases h2; exact Or.inr (Or.inl ⟨rfl, k8, tys.length + 8, _, by rw [List.getElem?_append_right (by omega), show tys.length + 8 - tys.length = 8 by omega]; rfl, rfl, fun j hj => ⟨i32_lo _, i32_hi _⟩⟩)
          | 10, h1, h2 => cases h1; cases h2; exact Or.inr (Or.inl ⟨rfl, k9, tys.length + 9, _, by rw [List.getElem?_append_right (by omega), show tys.length + 9 - tys.length = 9 by omega]; rfl, rfl, fun j hj => ⟨i32_lo _, i32_hi _⟩⟩)
          | i + 11, h1, h2 => simp at h1
        have hTy := Ty.growZ (ks := [0, 20, 21, 22, 23, 24, 25, 26, 27, 28, 29]) hw.2.2.2.2 hD (SubT.app (t' := [(k0, .int), (k1, .int), (k2, .int), (k3, .int), (k4, .int), (k5, .int), (k6, .int), (k7, .int), (k8, .int), (k9, .boolean)])) hok
        have hEx : Ext κ (kap κ (kz [(v90, .inr (0, [.int 0, .int 0, .int 0, .int 0, .int 0, .int 0, .ref q0, .ref q1, .ref q2, .ref q3, .ref q4, .ref q5, .ref q6, .ref q7, .ref q8, .ref q9])), (q0, .inl (k0, 6, .inl (fun _ => 0))), (q1, .inl (k1, 6, .inl (fun _ => 0))), (q2, .inl (k2, 6, .inl (fun _ => 0))), (q3, .inl (k3, 36, .inl (fun _ => 0))), (q4, .inl (k4, 4, .inl (fun _ => 0))), (q5, .inl (k5, 4, .inl (fun _ => 0))), (q6, .inl (k6, 6, .inl (fun _ => 0))), (q7, .inl (k7, 6, .inl (fun _ => 0))), (q8, .inl (k8, 49, .inl (fun _ => 0))), (q9, .inl (k9, 61, .inl (fun _ => 0)))] [0, 20, 21, 22, 23, 24, 25, 26, 27, 28, 29])) := growZ_ext hw.2.2.2.2 hD
        have k_v90 : (kap κ (kz [(v90, .inr (0, [.int 0, .int 0, .int 0, .int 0, .int 0, .int 0, .ref q0, .ref q1, .ref q2, .ref q3, .ref q4, .ref q5, .ref q6, .ref q7, .ref q8, .ref q9])), (q0, .inl (k0, 6, .inl (fun _ => 0))), (q1, .inl (k1, 6, .inl (fun _ => 0))), (q2, .inl (k2, 6, .inl (fun _ => 0))), (q3, .inl (k3, 36, .inl (fun _ => 0))), (q4, .inl (k4, 4, .inl (fun _ => 0))), (q5, .inl (k5, 4, .inl (fun _ => 0))), (q6, .inl (k6, 6, .inl (fun _ => 0))), (q7, .inl (k7, 6, .inl (fun _ => 0))), (q8, .inl (k8, 49, .inl (fun _ => 0))), (q9, .inl (k9, 61, .inl (fun _ => 0)))] [0, 20, 21, 22, 23, 24, 25, 26, 27, 28, 29])) v90 = some 0 := growZ_at hD (i := 0) rfl rfl
        have hTs : SubT tys (tys ++ [(k0, .int), (k1, .int), (k2, .int), (k3, .int), (k4, .int), (k5, .int), (k6, .int), (k7, .int), (k8, .int), (k9, .boolean)]) := SubT.app
        clear hok
        generalize kap κ (kz [(v90, .inr (0, [.int 0, .int 0, .int 0, .int 0, .int 0, .int 0, .ref q0, .ref q1, .ref q2, .ref q3, .ref q4, .ref q5, .ref q6, .ref q7, .ref q8, .ref q9])), (q0, .inl (k0, 6, .inl (fun _ => 0))), (q1, .inl (k1, 6, .inl (fun _ => 0))), (q2, .inl (k2, 6, .inl (fun _ => 0))), (q3, .inl (k3, 36, .inl (fun _ => 0))), (q4, .inl (k4, 4, .inl (fun _ => 0))), (q5, .inl (k5, 4, .inl (fun _ => 0))), (q6, .inl (k6, 6, .inl (fun _ => 0))), (q7, .inl (k7, 6, .inl (fun _ => 0))), (q8, .inl (k8, 49, .inl (fun _ => 0))), (q9, .inl (k9, 61, .inl (fun _ => 0)))] [0, 20, 21, 22, 23, 24, 25, 26, 27, 28, 29]) = κ1 at hTy hEx k_v90
        generalize tys ++ [(k0, .int), (k1, .int), (k2, .int), (k3, .int), (k4, .int), (k5, .int), (k6, .int), (k7, .int), (k8, .int), (k9, .boolean)] = tys1 at hK hTy hTs
        have hw : tW (dC, dI) tys1 κ1 B A s (w_4 ++ [(v90, .inr (0, [.int 0, .int 0, .int 0, .int 0, .int 0, .int 0, .ref q0, .ref q1, .ref q2, .ref q3, .ref q4, .ref q5, .ref q6, .ref q7, .ref q8, .ref q9])), (q0, .inl (k0, 6, .inl (fun _ => 0))), (q1, .inl (k1, 6, .inl (fun _ => 0))), (q2, .inl (k2, 6, .inl (fun _ => 0))), (q3, .inl (k3, 36, .inl (fun _ => 0))), (q4, .inl (k4, 4, .inl (fun _ => 0))), (q5, .inl (k5, 4, .inl (fun _ => 0))), (q6, .inl (k6, 6, .inl (fun _ => 0))), (q7, .inl (k7, 6, .inl (fun _ => 0))), (q8, .inl (k8, 49, .inl (fun _ => 0))), (q9, .inl (k9, 61, .inl (fun _ => 0)))]) H locs := ⟨hK, hP, hD, hS, hTy⟩
        have hM := hM.grow (w1 := [(v90, .inr (0, [.int 0, .int 0, .int 0, .int 0, .int 0, .int 0, .ref q0, .ref q1, .ref q2, .ref q3, .ref q4, .ref q5, .ref q6, .ref q7, .ref q8, .ref q9])), (q0, .inl (k0, 6, .inl (fun _ => 0))), (q1, .inl (k1, 6, .inl (fun _ => 0))), (q2, .inl (k2, 6, .inl (fun _ => 0))), (q3, .inl (k3, 36, .inl (fun _ => 0))), (q4, .inl (k4, 4, .inl (fun _ => 0))), (q5, .inl (k5, 4, .inl (fun _ => 0))), (q6, .inl (k6, 6, .inl (fun _ => 0))), (q7, .inl (k7, 6, .inl (fun _ => 0))), (q8, .inl (k8, 49, .inl (fun _ => 0))), (q9, .inl (k9, 61, .inl (fun _ => 0)))])
        have f_a0_X1_0 := f_a0_X1_0.app (w1 := [(v90, .inr (0, [.int 0, .int 0, .int 0, .int 0, .int 0, .int 0, .ref q0, .ref q1, .ref q2, .ref q3, .ref q4, .ref q5, .ref q6, .ref q7, .ref q8, .ref q9])), (q0, .inl (k0, 6, .inl (fun _ => 0))), (q1, .inl (k1, 6, .inl (fun _ => 0))), (q2, .inl (k2, 6, .inl (fun _ => 0))), (q3, .inl (k3, 36, .inl (fun _ => 0))), (q4, .inl (k4, 4, .inl (fun _ => 0))), (q5, .inl (k5, 4, .inl (fun _ => 0))), (q6, .inl (k6, 6, .inl (fun _ => 0))), (q7, .inl (k7, 6, .inl (fun _ => 0))), (q8, .inl (k8, 49, .inl (fun _ => 0))), (q9, .inl (k9, 61, .inl (fun _ => 0)))])
        have f_a1_X9_3 := f_a1_X9_3.app (w1 := [(v90, .inr (0, [.int 0, .int 0, .int 0, .int 0, .int 0, .int 0, .ref q0, .ref q1, .ref q2, .ref q3, .ref q4, .ref q5, .ref q6, .ref q7, .ref q8, .ref q9])), (q0, .inl (k0, 6, .inl (fun _ => 0))), (q1, .inl (k1, 6, .inl (fun _ => 0))), (q2, .inl (k2, 6, .inl (fun _ => 0))), (q3, .inl (k3, 36, .inl (fun _ => 0))), (q4, .inl (k4, 4, .inl (fun _ => 0))), (q5, .inl (k5, 4, .inl (fun _ => 0))), (q6, .inl (k6, 6, .inl (fun _ => 0))), (q7, .inl (k7, 6, .inl (fun _ => 0))), (q8, .inl (k8, 49, .inl (fun _ => 0))), (q9, .inl (k9, 61, .inl (fun _ => 0)))])
        have f_v1_X0_0 := f_v1_X0_0.app (w1 := [(v90, .inr (0, [.int 0, .int 0, .int 0, .int 0, .int 0, .int 0, .ref q0, .ref q1, .ref q2, .ref q3, .ref q4, .ref q5, .ref q6, .ref q7, .ref q8, .ref q9])), (q0, .inl (k0, 6, .inl (fun _ => 0))), (q1, .inl (k1, 6, .inl (fun _ => 0))), (q2, .inl (k2, 6, .inl (fun _ => 0))), (q3, .inl (k3, 36, .inl (fun _ => 0))), (q4, .inl (k4, 4, .inl (fun _ => 0))), (q5, .inl (k5, 4, .inl (fun _ => 0))), (q6, .inl (k6, 6, .inl (fun _ => 0))), (q7, .inl (k7, 6, .inl (fun _ => 0))), (q8, .inl (k8, 49, .inl (fun _ => 0))), (q9, .inl (k9, 61, .inl (fun _ => 0)))])
        generalize (w_4 ++ [(v90, .inr (0, [.int 0, .int 0, .int 0, .int 0, .int 0, .int 0, .ref q0, .ref q1, .ref q2, .ref q3, .ref q4, .ref q5, .ref q6, .ref q7, .ref q8, .ref q9])), (q0, .inl (k0, 6, .inl (fun _ => 0))), (q1, .inl (k1, 6, .inl (fun _ => 0))), (q2, .inl (k2, 6, .inl (fun _ => 0))), (q3, .inl (k3, 36, .inl (fun _ => 0))), (q4, .inl (k4, 4, .inl (fun _ => 0))), (q5, .inl (k5, 4, .inl (fun _ => 0))), (q6, .inl (k6, 6, .inl (fun _ => 0))), (q7, .inl (k7, 6, .inl (fun _ => 0))), (q8, .inl (k8, 49, .inl (fun _ => 0))), (q9, .inl (k9, 61, .inl (fun _ => 0)))]) = w_5 at hw hM f_a0_X1_0 f_a1_X9_3 f_v1_X0_0
        have k_a0 := hEx _ _ k_a0
        have k_a1 := hEx _ _ k_a1
        have k_v1 := hEx _ _ k_v1
        refine t_put (ci := 1) (C := RX1) (T := TX1) (N := 1) (v := .ref v90) hx hb hts iX1 tyX1 tyX1_ok nmX1 hown hw k_a0 rfl rfl rfl 0 (by decide) (hts _ tw_156) (fun _ h9 => h9) rfl (tyX1_ok 0 (by decide)) rfl rfl (okV.ref (k := 0) rfl k_v90) dX1_read_97 (fun w_6 H locs hw u => ?_)
        have hM := hM.up1 u (by decide)
        have f_a0_X1_0 := u.2.2
        have f_a1_X9_3 := u.1 _ _ _ _ f_a1_X9_3 (Or.inr (Or.inl (by decide)))
        have f_v1_X0_0 := u.1 _ _ _ _ f_v1_X0_0 (Or.inr (Or.inl (by decide)))
        refine lv_aload_n hx hb dX1_read_100 rfl (lv_at hl 0 rfl) ?_
        rw [hQ]
        refine W.widen (k := 11) (n := 200) (Nat.le_of_ble_eq_true rfl) (Nat.le_of_ble_eq_true rfl) ?_
        exact W.aret (v := .ref v1) hx hb hr (Or.inl ⟨_, rfl⟩) (Or.inr ⟨_, rfl⟩) (fun t ht hW => ⟨⟨(some v1), (w_6, κ1, tys1), rfl, ⟨(fun _ h => by cases h; exact k_v1), hw.2.2.2.2, hEx, hTs, hM⟩, by rw [ht]; exact hw.2.1, va_K.moved hW.alike hw.1, hw.2.2.1⟩, hw.2.2.2.1.F ht⟩) hw.2.2.2.1.2.2 dX1_read_101
      · simp only [fa_lt, fa_le, fa_eq, li_0] at c_70
        refine lv_null hx hb dX1_read_73 ?_
        rw [hQ]
        refine W.widen (k := 11) (n := 200) (Nat.le_of_ble_eq_true rfl) (Nat.le_of_ble_eq_true rfl) ?_
        exact W.aret (v := .null) hx hb hr (Or.inl ⟨_, rfl⟩) (Or.inl rfl) (fun t ht hW => ⟨⟨none, (w66, κ, tys), rfl, ⟨(fun _ h => by cases h), hw.2.2.2.2, Ext.rf, SubT.rf, hM⟩, by rw [ht]; exact hw.2.1, va_K.moved hW.alike hw.1, hw.2.2.1⟩, hw.2.2.2.1.F ht⟩) hw.2.2.2.1.2.2 dX1_read_74
    refine lv_icmp_gt (tgt := 66) hx hb dX1_read_16 (by decide) (fun c_16 => ?_) (fun c_16 => ?_)
    · simp only [fa_lt, fa_le, fa_eq, li_40] at c_16
      exact J66 _ _ _ w13 hw hM f_a0_X1_0 (lv_sub hl [0, 1, 2] rfl)
    · simp only [fa_lt, fa_le, fa_eq, li_40] at c_16
      refine lv_aload_n hx hb dX1_read_19 rfl (lv_at hl 0 rfl) ?_
      refine lv_aload_n hx hb dX1_read_20 rfl (lv_at hl 1 rfl) ?_
      refine lv_iload_n hx hb dX1_read_21 rfl (lv_at hl 2 rfl) ?_
      refine t_callv (va_runV (As := [.ref a1, .int p13_l2]) (rest := []) ⟨hx, hb, hml, hown, hts⟩ (t_X1_readClause l dC dI tys κ B w13 hw.2.2.2.2 aK aV a0 k_a0 a1 k_a1 p13_l2 (by omega) (by omega) H.size) (cwV 2 hts (gUV tw_500 tw_502 ts_0_1 tw_3 tw_503) rfl rfl rfl (by decide +kernel) ⟨(Nat.le_of_ble_eq_true rfl), (Nat.le_of_ble_eq_true rfl)⟩) ⟨cPreS.blind, t_recv hw (ci := 1) k_a0 rfl rfl, cPreS.use hw.2.1 hw.1 hw.2.2.1 hE hStr hR hw.2.2.2.1 (hw.free hA)⟩ rfl rfl hl.1 rfl (lv_room (Nat.le_of_ble_eq_true rfl)) dX1_read_22 ⟨(Nat.le_of_ble_eq_true rfl), (Nat.le_of_ble_eq_true rfl)⟩) hw hA (fun _ h => h.1) (fun w_7 H locs hp hw => ?_)
      obtain ⟨_, hm⟩ := hp
      have hM := hM.trans hm (by decide) (by decide)
      have f_a0_X1_0 := hm.1 _ _ _ _ f_a0_X1_0 (by decide)
      refine lv_aload_n hx hb dX1_read_25 rfl (lv_at hl 1 rfl) ?_
      refine t_geti (ci := 9) (C := RX9) (T := TX9) (N := 4) hx hb hts iX9 hown hw k_a1 rfl rfl rfl 3 (by decide) (hts _ tw_42) (fun _ h9 => h9) dX1_read_26 rfl (fun v26 l_v26 h_v26 f_a1_X9_3 => ?_)
      have l_v26 : 0 ≤ v26.toInt := l_v26
      have h_v26 : v26.toInt ≤ 3205 := h_v26
      refine lv_if_ne (tgt := 66) hx hb dX1_read_29 (by decide) (fun c_29 => ?_) (fun c_29 => ?_)
      · simp only [fa_lt, fa_le, fa_eq, li_0] at c_29
        exact J66 _ _ _ w_7 hw hM f_a0_X1_0 (lv_sub hl [0, 1, 2] rfl)
      · simp only [fa_lt, fa_le, fa_eq, li_0] at c_29
        refine lv_aload_n hx hb dX1_read_32 rfl (lv_at hl 1 rfl) ?_
        refine t_calli (va_runV (As := []) (rest := []) ⟨hx, hb, hml, hown, hts⟩ (t_X9_atEnd l dC dI tys κ B w_7 hw.2.2.2.2 a1 k_a1 H.size) (cwV 0 hts (gUV tw_598 tw_599 tw_600 tw_2 tw_601) rfl rfl rfl (by decide +kernel) ⟨(Nat.le_of_ble_eq_true rfl), (Nat.le_of_ble_eq_true rfl)⟩) ⟨cPre.blind, t_recv hw (ci := 9) k_a1 rfl rfl, cPre.use hw.2.1 hw.1 hw.2.2.1 hE⟩ rfl rfl hl.1 rfl (lv_room (Nat.le_of_ble_eq_true rfl)) dX1_read_33 ⟨(Nat.le_of_ble_eq_true rfl), (Nat.le_of_ble_eq_true rfl)⟩) hw hA (fun _ _ h => h.2.2.1) (fun v33 w_8 H locs hp hw => ?_)
        obtain ⟨l_v33, h_v33, _, hm⟩ := hp
        have hM := hM.trans hm (by decide) (by decide)
        have f_a0_X1_0 := hm.1 _ _ _ _ f_a0_X1_0 (by decide)
        have f_a1_X9_3 := hm.1 _ _ _ _ f_a1_X9_3 (by decide)
        refine lv_if_eq (tgt := 42) hx hb dX1_read_36 (by decide) (fun c_36 => ?_) (fun c_36 => ?_)
        · simp only [fa_lt, fa_le, fa_eq, li_0] at c_36
          refine lv_aload_n hx hb dX1_read_42 rfl (lv_at hl 1 rfl) ?_
          refine lv_bipush (v := 59) hx hb dX1_read_43 (by decide) ?_
          refine t_calli (va_runV (As := [.int 59]) (rest := []) ⟨hx, hb, hml, hown, hts⟩ (t_X9_takeSign l dC dI tys κ B w_8 hw.2.2.2.2 a1 k_a1 59 (by decide) (by decide) H.size) (cwV 1 hts (gUV tw_602 tw_603 tw_604 tw_2 tw_605) rfl rfl rfl (by decide +kernel) ⟨(Nat.le_of_ble_eq_true rfl), (Nat.le_of_ble_eq_true rfl)⟩) ⟨cPre.blind, t_recv hw (ci := 9) k_a1 rfl rfl, cPre.use hw.2.1 hw.1 hw.2.2.1 hE⟩ rfl rfl hl.1 rfl (lv_room (Nat.le_of_ble_eq_true rfl)) dX1_read_45 ⟨(Nat.le_of_ble_eq_true rfl), (Nat.le_of_ble_eq_true rfl)⟩) hw hA (fun _ _ h => h.2.2.1) (fun v45 w_9 H locs hp hw => ?_)
          obtain ⟨l_v45, h_v45, _, hm⟩ := hp
          have hM := hM.trans hm (by decide) (by decide)
          have f_a0_X1_0 := hm.1 _ _ _ _ f_a0_X1_0 (by decide)
          have f_a1_X9_3 := hm.1 _ _ _ _ f_a1_X9_3 (by decide)
          have J60 : ∀ (H : Heap) (locs : List Loc) (ls : Array Slot) (w60 : va_W) (p60_m_a1_X9_3 : Int32), tW (dC, dI) tys κ B A s w60 H locs → Sm [(0, 0), (0, 1), (0, 2), (0, 3), (0, 4), (0, 5), (1, 0), (9, 2), (9, 3)] [20, 21, 22, 23, 24, 25, 26, 27, 28, 29] κ ws w60 → 0 ≤ p60_m_a1_X9_3.toInt → p60_m_a1_X9_3.toInt ≤ 3205 → fld w60 a0 1 0 (.ref v1) → fld w60 a1 9 3 (.int p60_m_a1_X9_3) → lv_has ls 3 [(0, .ref a0), (1, .ref a1), (2, .int p13_l2)] → W p l e (headSpec (ws_u yX1_read cX1_read 3 (some (.object "BoyBishop$Choir"))) ({ frames := 7, cells := 11, slots := 200, locals := 159 })).room s m ([.ref a0, .ref a1] : List Value).toArray below meth c H locs 0 0 QQ (F0 m 60 ls []) := by
            intro H locs ls w60 p60_m_a1_X9_3 hw hM l_p60_m_a1_X9_3 h_p60_m_a1_X9_3 f_a0_X1_0 f_a1_X9_3 hl
            obtain ⟨v60, e_v60⟩ : ∃ y : Int32, y = p13_l2 + 1 := ⟨_, rfl⟩
            refine lv_iinc (v := v60) (lv' := [(2, .int v60), (0, .ref a0), (1, .ref a1)]) hx hb dX1_read_60 hl (k := 2) rfl e_v60.symm (by decide) rfl (fun ls hl => ?_)
            have e_v60 : v60.toInt = p13_l2.toInt + 1 := ad_i e_v60 rfl li_1 (by omega) (by omega)
            refine lv_goto (tgt := 13) hx hb dX1_read_63 (by decide) ?_
            exact ih_13 _ _ _ _ (by omega) ⟨w60, v60, hw, hM, (by omega), (by omega), f_a0_X1_0, (lv_sub hl [1, 2, 0] rfl), rfl⟩
          refine lv_if_ne (tgt := 60) hx hb dX1_read_48 (by decide) (fun c_48 => ?_) (fun c_48 => ?_)
          · simp only [fa_lt, fa_le, fa_eq, li_0] at c_48
            exact J60 _ _ _ w_9 v26 hw hM (by omega) (by omega) f_a0_X1_0 f_a1_X9_3 (lv_sub hl [0, 1, 2] rfl)
          · simp only [fa_lt, fa_le, fa_eq, li_0] at c_48
            refine lv_aload_n hx hb dX1_read_51 rfl (lv_at hl 1 rfl) ?_
            refine lv_aload_n hx hb dX1_read_52 rfl (lv_at hl 1 rfl) ?_
            refine t_geti (ci := 9) (C := RX9) (T := TX9) (N := 4) hx hb hts iX9 hown hw k_a1 rfl rfl rfl 2 (by decide) (hts _ tw_40) (fun _ h9 => h9) dX1_read_53 rfl (fun v53 l_v53 h_v53 f_a1_X9_2 => ?_)
            have l_v53 : 0 ≤ v53.toInt := l_v53
            have h_v53 : v53.toInt ≤ 400 := h_v53
            refine lv_iconst (v := 0) hx hb dX1_read_56 (by decide) ?_
            refine t_callv (va_runV (As := [.int v53, .int 0]) (rest := []) ⟨hx, hb, hml, hown, hts⟩ (t_X9_fail l dC dI tys κ B w_9 hw.2.2.2.2 a1 k_a1 v53 (by omega) (by omega) 0 (by decide) (by decide) H.size) (cwV 2 hts (gUV tw_561 tw_562 tw_563 tw_2 tw_564) rfl rfl rfl (by decide +kernel) ⟨(Nat.le_of_ble_eq_true rfl), (Nat.le_of_ble_eq_true rfl)⟩) ⟨cPre.blind, t_recv hw (ci := 9) k_a1 rfl rfl, cPre.use hw.2.1 hw.1 hw.2.2.1 hE⟩ rfl rfl hl.1 rfl (lv_room (Nat.le_of_ble_eq_true rfl)) dX1_read_57 ⟨(Nat.le_of_ble_eq_true rfl), (Nat.le_of_ble_eq_true rfl)⟩) hw hA (fun _ h => h.1) (fun w_10 H locs hp hw => ?_)
            obtain ⟨_, hm, ⟨v57f, l_v57f, h_v57f, f_a1_X9_3⟩⟩ := hp
            have zc_0 := li_0
            have hM := hM.trans hm (by decide) (by decide)
            have f_a0_X1_0 := hm.1 _ _ _ _ f_a0_X1_0 (by decide)
            have f_a1_X9_2 := hm.1 _ _ _ _ f_a1_X9_2 (by decide)
            exact J60 _ _ _ w_10 v57f hw hM (by omega) (by omega) f_a0_X1_0 f_a1_X9_3 (lv_sub hl [0, 1, 2] rfl)
        · simp only [fa_lt, fa_le, fa_eq, li_0] at c_36
          refine lv_goto (tgt := 66) hx hb dX1_read_39 (by decide) ?_
          exact J66 _ _ _ w_8 hw hM f_a0_X1_0 (lv_sub hl [0, 1, 2] rfl)
  exact J13 _ _ _ _ ⟨w_2, 0, hw, hM, (by decide), (by decide), f_a0_X1_0, (lv_sub hl [1, 2, 0] rfl), rfl⟩
set_option maxHeartbeats 4000000 in
set_option maxRecDepth 100000 in
theorem t_X11_choir (l : Launch) (dC : Nat → ClassId) (dI : Nat → Nat → Nat) (tys : List (ClassId × FieldType)) (κ : tK) (B : Nat) (ws : va_W) (hT : Ty κ tys B ws) (aK aV : Nat → Nat) (a0 : Nat) (k_a0 : κ a0 = some 11) (sz : Nat) : Met l yX11_choir (ws_u yX11_choir cX11_choir 2 (some .int)) ({ frames := 8, cells := 11, slots := 200, locals := 181 }) (va_Pc [.ref a0] (cPreS (dC, dI) aK aV tys ws sz)) (va_Qi (fun (r : Int32) (u : va_W × tK × List (ClassId × FieldType)) => (-3207) ≤ r.toInt ∧ r.toInt ≤ 6 ∧ Ty u.2.1 u.2.2 B u.1 ∧ Ext κ u.2.1 ∧ SubT tys u.2.2 ∧ Sm [(0, 0), (0, 1), (0, 2), (0, 3), (0, 4), (0, 5), (1, 0), (4, 2), (8, 0), (8, 1), (8, 2), (8, 3), (8, 4), (8, 5), (8, 6), (9, 1), (9, 2), (9, 3), (10, 0), (10, 4)] [20, 21, 22, 23, 24, 25, 26, 27, 28, 29, 43, 44, 45, 46, 47, 48] κ ws u.1) (fun u t => cPost (dC, dI) u.2.2 u.1 (va_A ws sz) t) (va_A ws sz)) 11 200 (va_A ws sz) := by
  refine Met.ofW (cc := cX11_choir) (maxL := 2) (ret := (some .int)) (by decide) rfl ?_
  intro p e s m args below meth c s₁ B0 hml hv
  obtain ⟨rfl, ⟨hsz, hP, hK, hD0, hE⟩, hStr, hR⟩ := hv
  have hx := B0.exec
  have hb := B0.bytes
  have hr := B0.returns
  have hts0 := atoms_spec (ws := ws_u yX11_choir cX11_choir 2 (some .int)) B0.pre
  have hts : ∀ w ∈ gT, w.before _ s = true := fun w h => hts0 w (List.mem_cons_of_mem _ h)
  have hown : s.vm.findClass RX11 = some m.cls := findClass_of_methodNamed B0.named
  have hlocks := B0.notSynchronized
  subst hsz
  have hD := hD0.self (sz := s.heap.size)
  generalize hAe : va_A ws s.heap.size = A at hD hStr ⊢
  have hA : ∀ q : Nat, s.heap.size ≤ q → A q := fun q h => by rw [← hAe]; exact Or.inr h
  have hw : tW (dC, dI) tys κ B A s ws s.heap [] := ⟨hK, hP, hD, va_S.rf, hT⟩
  have hM : Sm [(0, 0), (0, 1), (0, 2), (0, 3), (0, 4), (0, 5), (1, 0), (4, 2), (8, 0), (8, 1), (8, 2), (8, 3), (8, 4), (8, 5), (8, 6), (9, 1), (9, 2), (9, 3), (10, 0), (10, 4)] [20, 21, 22, 23, 24, 25, 26, 27, 28, 29, 43, 44, 45, 46, 47, 48] κ ws ws := Sm.rf
  clear hP hK hD hD0 hts0
  have hl := lv_entry ([.ref a0]) (n := 2) (Nat.le_of_ble_eq_true rfl)
  rw [lg_entry_eq]
  generalize (lg_sl ([.ref a0]) ++ List.replicate (2 - (lg_sl ([.ref a0])).length) Slot.unset).toArray = ls at hl ⊢
  have hl : lv_has ls 2 [(0, .ref a0)] := hl
  refine t_start (fun QQ hQ => ?_)
  refine lv_aload_n hx hb dX11_choir_0 rfl (lv_at hl 0 rfl) ?_
  refine t_getr (k1 := 1) (ci := 11) (C := RX11) (T := TX11) (N := 12) hx hb hts iX11 hown hw k_a0 rfl rfl rfl 1 (by decide) (hts _ tw_424) (fun _ h9 => h9) dX11_choir_1 rfl (fun v1 k_v1 f_a0_X11_1 => ?_)
  refine lv_aload_n hx hb dX11_choir_4 rfl (lv_at hl 0 rfl) ?_
  refine t_getr (k1 := 9) (ci := 11) (C := RX11) (T := TX11) (N := 12) hx hb hts iX11 hown hw k_a0 rfl rfl rfl 0 (by decide) (hts _ tw_423) (fun _ h9 => h9) dX11_choir_5 rfl (fun v5 k_v5 f_a0_X11_0 => ?_)
  refine t_callqA (va_runV (As := [.ref v5]) (rest := []) ⟨hx, hb, hml, hown, hts⟩ (t_X1_read l dC dI tys κ B ws hw.2.2.2.2 aK aV v1 k_v1 v5 k_v5 s.heap.size) (cwV 1 hts (gUV tw_480 tw_481 tw_482 tw_3 tw_483) rfl rfl rfl (by decide +kernel) ⟨(Nat.le_of_ble_eq_true rfl), (Nat.le_of_ble_eq_true rfl)⟩) ⟨cPreS.blind, t_recv hw (ci := 1) k_v1 rfl rfl, cPreS.use hw.2.1 hw.1 hw.2.2.1 hE hStr hR hw.2.2.2.1 (hw.free hA)⟩ rfl rfl hl.1 rfl (lv_room (Nat.le_of_ble_eq_true rfl)) dX11_choir_8 ⟨(Nat.le_of_ble_eq_true rfl), (Nat.le_of_ble_eq_true rfl)⟩) hw hA (fun _ _ h => h.2.1) (fun v8 u H locs hp hw => ?_)
  obtain ⟨w_1, κ1, tys1⟩ := u
  obtain ⟨k_v8, _, hEx, hTs, hm⟩ := hp
  dsimp only at k_v8 hEx hTs hm hw
  have hM := hM.trans hm (by decide) (by decide)
  have f_a0_X11_1 := hm.1 _ _ _ _ f_a0_X11_1 (by decide)
  have f_a0_X11_0 := hm.1 _ _ _ _ f_a0_X11_0 (by decide)
  have k_a0 := hEx _ _ k_a0
  have k_v1 := hEx _ _ k_v1
  have k_v5 := hEx _ _ k_v5
  rcases v8 with _ | v8
  · refine lv_astore_nN (lv' := [(1, .null), (0, .ref a0)]) hx hb dX11_choir_11 rfl hl (by decide) rfl (fun ls hl => ?_)
    refine lv_aload_nN hx hb dX11_choir_12 rfl (lv_at hl 0 rfl) ?_
    refine lv_ifnonnullN hx hb dX11_choir_13 ?_
    refine lv_bipush (v := (-2)) hx hb dX11_choir_16 (by decide) ?_
    refine lv_aload_n hx hb dX11_choir_18 rfl (lv_at hl 1 rfl) ?_
    refine t_getk (ci := 11) (C := RX11) (T := TX11) (N := 12) hx hb hts iX11 hown hw rfl 0 (by decide) (hts _ tw_423) (fun _ h9 => h9) dX11_choir_19 f_a0_X11_0 ?_
    refine t_geti (ci := 9) (C := RX9) (T := TX9) (N := 4) hx hb hts iX9 hown hw k_v5 rfl rfl rfl 3 (by decide) (hts _ tw_45) (fun _ h9 => h9) dX11_choir_22 rfl (fun v22 l_v22 h_v22 f_v5_X9_3 => ?_)
    have l_v22 : 0 ≤ v22.toInt := l_v22
    have h_v22 : v22.toInt ≤ 3205 := h_v22
    refine lv_isub hx hb dX11_choir_25 ?_
    refine lv_topi (fun v25 e_v25 => ?_)
    have e_v25 : v25.toInt = (-2) - v22.toInt := sb_i e_v25 li_m2 rfl (by omega) (by omega)
    rw [hQ]
    refine W.widen (k := 11) (n := 200) (Nat.le_of_ble_eq_true rfl) (Nat.le_of_ble_eq_true rfl) ?_
    exact W.iret (v := v25) hx hb hr (fun t ht hW => ⟨⟨v25, (w_1, κ1, tys1), rfl, ⟨(by omega), (by omega), hw.2.2.2.2, hEx, hTs, hM⟩, by rw [ht]; exact hw.2.1, va_K.moved hW.alike hw.1, hw.2.2.1⟩, hw.2.2.2.1.F ht⟩) hw.2.2.2.1.2.2 dX11_choir_26
  · have k_v8 := k_v8 _ rfl
    refine lv_astore_n (lv' := [(1, .ref v8), (0, .ref a0)]) hx hb dX11_choir_11 rfl hl (by decide) rfl (fun ls hl => ?_)
    refine lv_aload_n hx hb dX11_choir_12 rfl (lv_at hl 0 rfl) ?_
    refine lv_ifnonnull (tgt := 27) hx hb dX11_choir_13 (by decide) ?_
    refine lv_aload_n hx hb dX11_choir_27 rfl (lv_at hl 1 rfl) ?_
    refine t_getk (ci := 11) (C := RX11) (T := TX11) (N := 12) hx hb hts iX11 hown hw rfl 0 (by decide) (hts _ tw_423) (fun _ h9 => h9) dX11_choir_28 f_a0_X11_0 ?_
    refine lv_iconst (v := 0) hx hb dX11_choir_31 (by decide) ?_
    refine t_put (ci := 9) (C := RX9) (T := TX9) (N := 4) (v := .int 0) hx hb hts iX9 tyX9 tyX9_ok nmX9 hown hw k_v5 rfl rfl rfl 1 (by decide) (hts _ tw_38) (fun _ h9 => h9) rfl (tyX9_ok 1 (by decide)) rfl rfl (okV.int rfl (by decide) (by decide)) dX11_choir_32 (fun w_2 H locs hw u => ?_)
    have hM := hM.up1 u (by decide)
    have f_a0_X11_1 := u.1 _ _ _ _ f_a0_X11_1 (Or.inr (Or.inl (by decide)))
    have f_a0_X11_0 := u.1 _ _ _ _ f_a0_X11_0 (Or.inr (Or.inl (by decide)))
    have f_v5_X9_1 := u.2.2
    refine lv_aload_n hx hb dX11_choir_35 rfl (lv_at hl 1 rfl) ?_
    refine t_getr (k1 := 10) (ci := 11) (C := RX11) (T := TX11) (N := 12) hx hb hts iX11 hown hw k_a0 rfl rfl rfl 5 (by decide) (hts _ tw_428) (fun _ h9 => h9) dX11_choir_36 rfl (fun v36 k_v36 f_a0_X11_5 => ?_)
    refine lv_aload_n hx hb dX11_choir_39 rfl (lv_at hl 0 rfl) ?_
    refine t_put (ci := 10) (C := RX10) (T := TX10) (N := 8) (v := .ref v8) hx hb hts iX10 tyX10 tyX10_ok nmX10 hown hw k_v36 rfl rfl rfl 0 (by decide) (hts _ tw_282) (fun _ h9 => h9) rfl (tyX10_ok 0 (by decide)) rfl rfl (okV.ref (k := 0) rfl k_v8) dX11_choir_40 (fun w_3 H locs hw u => ?_)
    have hM := hM.up1 u (by decide)
    have f_a0_X11_1 := u.1 _ _ _ _ f_a0_X11_1 (Or.inr (Or.inl (by decide)))
    have f_a0_X11_0 := u.1 _ _ _ _ f_a0_X11_0 (Or.inr (Or.inl (by decide)))
    have f_v5_X9_1 := u.1 _ _ _ _ f_v5_X9_1 (Or.inr (Or.inl (by decide)))
    have f_a0_X11_5 := u.1 _ _ _ _ f_a0_X11_5 (Or.inr (Or.inl (by decide)))
    have f_v36_X10_0 := u.2.2
    refine lv_aload_n hx hb dX11_choir_43 rfl (lv_at hl 1 rfl) ?_
    refine t_getk (ci := 11) (C := RX11) (T := TX11) (N := 12) hx hb hts iX11 hown hw rfl 5 (by decide) (hts _ tw_428) (fun _ h9 => h9) dX11_choir_44 f_a0_X11_5 ?_
    refine t_getr (k1 := 8) (ci := 10) (C := RX10) (T := TX10) (N := 8) hx hb hts iX10 hown hw k_v36 rfl rfl rfl 1 (by decide) (hts _ tw_285) (fun _ h9 => h9) dX11_choir_47 rfl (fun v47 k_v47 f_v36_X10_1 => ?_)
    refine lv_aload_n hx hb dX11_choir_50 rfl (lv_at hl 0 rfl) ?_
    refine t_callv (va_runV (As := [.ref v8]) (rest := []) ⟨hx, hb, hml, hown, hts⟩ (t_X8_begin l dC dI tys1 κ1 B w_3 hw.2.2.2.2 v47 k_v47 v8 k_v8 H.size) (cwV 1 hts (gUV tw_617 tw_618 tw_619 tw_8 tw_620) rfl rfl rfl (by decide +kernel) ⟨(Nat.le_of_ble_eq_true rfl), (Nat.le_of_ble_eq_true rfl)⟩) ⟨cPre.blind, t_recv hw (ci := 8) k_v47 rfl rfl, cPre.use hw.2.1 hw.1 hw.2.2.1 hE⟩ rfl rfl hl.1 rfl (lv_room (Nat.le_of_ble_eq_true rfl)) dX11_choir_51 ⟨(Nat.le_of_ble_eq_true rfl), (Nat.le_of_ble_eq_true rfl)⟩) hw hA (fun _ h => h.1) (fun w_4 H locs hp hw => ?_)
    obtain ⟨_, hm⟩ := hp
    have hM := hM.trans (hm.ext hEx) (by decide) (by decide)
    have f_a0_X11_1 := hm.1 _ _ _ _ f_a0_X11_1 (by decide)
    have f_a0_X11_0 := hm.1 _ _ _ _ f_a0_X11_0 (by decide)
    have f_v5_X9_1 := hm.1 _ _ _ _ f_v5_X9_1 (by decide)
    have f_a0_X11_5 := hm.1 _ _ _ _ f_a0_X11_5 (by decide)
    have f_v36_X10_0 := hm.1 _ _ _ _ f_v36_X10_0 (by decide)
    have f_v36_X10_1 := hm.1 _ _ _ _ f_v36_X10_1 (by decide)
    refine lv_aload_n hx hb dX11_choir_54 rfl (lv_at hl 1 rfl) ?_
    refine t_getk (ci := 11) (C := RX11) (T := TX11) (N := 12) hx hb hts iX11 hown hw rfl 5 (by decide) (hts _ tw_428) (fun _ h9 => h9) dX11_choir_55 f_a0_X11_5 ?_
    refine lv_iconst (v := 0) hx hb dX11_choir_58 (by decide) ?_
    refine t_put (ci := 10) (C := RX10) (T := TX10) (N := 8) (v := .int 0) hx hb hts iX10 tyX10 tyX10_ok nmX10 hown hw k_v36 rfl rfl rfl 4 (by decide) (hts _ tw_292) (fun _ h9 => h9) rfl (tyX10_ok 4 (by decide)) rfl rfl (okV.int rfl (by decide) (by decide)) dX11_choir_59 (fun w_5 H locs hw u => ?_)
    have hM := hM.up1 u (by decide)
    have f_a0_X11_1 := u.1 _ _ _ _ f_a0_X11_1 (Or.inr (Or.inl (by decide)))
    have f_a0_X11_0 := u.1 _ _ _ _ f_a0_X11_0 (Or.inr (Or.inl (by decide)))
    have f_v5_X9_1 := u.1 _ _ _ _ f_v5_X9_1 (Or.inr (Or.inl (by decide)))
    have f_a0_X11_5 := u.1 _ _ _ _ f_a0_X11_5 (Or.inr (Or.inl (by decide)))
    have f_v36_X10_0 := u.1 _ _ _ _ f_v36_X10_0 (Or.inr (Or.inr (by decide)))
    have f_v36_X10_1 := u.1 _ _ _ _ f_v36_X10_1 (Or.inr (Or.inr (by decide)))
    have f_v36_X10_4 := u.2.2
    refine lv_aload_n hx hb dX11_choir_62 rfl (lv_at hl 1 rfl) ?_
    refine t_getr (k1 := 4) (ci := 11) (C := RX11) (T := TX11) (N := 12) hx hb hts iX11 hown hw k_a0 rfl rfl rfl 7 (by decide) (hts _ tw_430) (fun _ h9 => h9) dX11_choir_63 rfl (fun v63 k_v63 f_a0_X11_7 => ?_)
    refine t_callv (va_runV (As := []) (rest := []) ⟨hx, hb, hml, hown, hts⟩ (t_X4_forget l dC dI tys1 κ1 B w_5 hw.2.2.2.2 v63 k_v63 H.size) (cwV 0 hts (gUV tw_625 tw_626 tw_627 tw_9 tw_628) rfl rfl rfl (by decide +kernel) ⟨(Nat.le_of_ble_eq_true rfl), (Nat.le_of_ble_eq_true rfl)⟩) ⟨cPre.blind, t_recv hw (ci := 4) k_v63 rfl rfl, cPre.use hw.2.1 hw.1 hw.2.2.1 hE⟩ rfl rfl hl.1 rfl (lv_room (Nat.le_of_ble_eq_true rfl)) dX11_choir_66 ⟨(Nat.le_of_ble_eq_true rfl), (Nat.le_of_ble_eq_true rfl)⟩) hw hA (fun _ h => h.1) (fun w_6 H locs hp hw => ?_)
    obtain ⟨_, hm⟩ := hp
    have hM := hM.trans (hm.ext hEx) (by decide) (by decide)
    have f_a0_X11_1 := hm.1 _ _ _ _ f_a0_X11_1 (by decide)
    have f_a0_X11_0 := hm.1 _ _ _ _ f_a0_X11_0 (by decide)
    have f_v5_X9_1 := hm.1 _ _ _ _ f_v5_X9_1 (by decide)
    have f_a0_X11_5 := hm.1 _ _ _ _ f_a0_X11_5 (by decide)
    have f_v36_X10_0 := hm.1 _ _ _ _ f_v36_X10_0 (by decide)
    have f_v36_X10_1 := hm.1 _ _ _ _ f_v36_X10_1 (by decide)
    have f_v36_X10_4 := hm.1 _ _ _ _ f_v36_X10_4 (by decide)
    have f_a0_X11_7 := hm.1 _ _ _ _ f_a0_X11_7 (by decide)
    refine lv_aload_n hx hb dX11_choir_69 rfl (lv_at hl 0 rfl) ?_
    refine t_geti (ci := 0) (C := RX0) (T := TX0) (N := 16) hx hb hts iX0 hown hw k_v8 rfl rfl rfl 3 (by decide) (hts _ tw_80) (fun _ h9 => h9) dX11_choir_70 rfl (fun v70 l_v70 h_v70 f_v8_X0_3 => ?_)
    have l_v70 : 0 ≤ v70.toInt := l_v70
    have h_v70 : v70.toInt ≤ 6 := h_v70
    rw [hQ]
    refine W.widen (k := 11) (n := 200) (Nat.le_of_ble_eq_true rfl) (Nat.le_of_ble_eq_true rfl) ?_
    exact W.iret (v := v70) hx hb hr (fun t ht hW => ⟨⟨v70, (w_6, κ1, tys1), rfl, ⟨(by omega), (by omega), hw.2.2.2.2, hEx, hTs, hM⟩, by rw [ht]; exact hw.2.1, va_K.moved hW.alike hw.1, hw.2.2.1⟩, hw.2.2.2.1.F ht⟩) hw.2.2.2.1.2.2 dX11_choir_73
