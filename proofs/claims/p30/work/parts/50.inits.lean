theorem tw_165 : (Jvm.Cond.methodLink "BoyBishop$RuleReader" (3 : Nat) ({ cls := "java/lang/Object", name := "<init>", desc := "()V" } : Jvm.MethodName)) ∈ gT := gT_in (List.mem_append_right _ (List.mem_append_left _ (List.mem_of_getElem? (i := 165) rfl))) rfl
theorem tw_182 : (Jvm.Cond.methodLink "BoyBishop$Rule" (1 : Nat) ({ cls := "java/lang/Object", name := "<init>", desc := "()V" } : Jvm.MethodName)) ∈ gT := gT_in (List.mem_append_right _ (List.mem_append_left _ (List.mem_of_getElem? (i := 182) rfl))) rfl
theorem tw_205 : (Jvm.Cond.arrayClass Jvm.ClassFile.FieldType.long) ∈ gT := gT_in (List.mem_append_right _ (List.mem_append_left _ (List.mem_of_getElem? (i := 205) rfl))) rfl
theorem tw_213 : (Jvm.Cond.methodLink "BoyBishop$Whole" (3 : Nat) ({ cls := "java/lang/Object", name := "<init>", desc := "()V" } : Jvm.MethodName)) ∈ gT := gT_in (List.mem_append_right _ (List.mem_append_left _ (List.mem_of_getElem? (i := 213) rfl))) rfl
theorem tw_214 : (Jvm.Cond.classLink "BoyBishop$Whole" (15 : Nat) "BoyBishop$Standing") ∈ gT := gT_in (List.mem_append_right _ (List.mem_append_left _ (List.mem_of_getElem? (i := 214) rfl))) rfl
theorem tw_215 : (Jvm.Cond.instantiable "BoyBishop$Standing" (13 : Nat)) ∈ gT := gT_in (List.mem_append_right _ (List.mem_append_left _ (List.mem_of_getElem? (i := 215) rfl))) rfl
theorem tw_216 : (Jvm.Cond.methodLink "BoyBishop$Whole" (17 : Nat) ({ cls := "BoyBishop$Standing", name := "<init>", desc := "()V" } : Jvm.MethodName)) ∈ gT := gT_in (List.mem_append_right _ (List.mem_append_left _ (List.mem_of_getElem? (i := 216) rfl))) rfl
theorem tw_217 : (Jvm.Cond.instanceMethod ({ cls := "BoyBishop$Standing", name := "<init>", desc := "()V" } : Jvm.MethodName)) ∈ gT := gT_in (List.mem_append_right _ (List.mem_append_left _ (List.mem_of_getElem? (i := 217) rfl))) rfl
theorem tw_218 : (Jvm.Cond.code ({ cls := "BoyBishop$Standing", name := "<init>", desc := "()V" } : Jvm.MethodName) prog_10_method_1_code (1 : Nat) (Option.none : Option Jvm.ClassFile.FieldType)) ∈ gT := gT_in (List.mem_append_right _ (List.mem_append_left _ (List.mem_of_getElem? (i := 218) rfl))) rfl
theorem tw_219 : (Jvm.Cond.methodLink "BoyBishop$Standing" (3 : Nat) ({ cls := "java/lang/Object", name := "<init>", desc := "()V" } : Jvm.MethodName)) ∈ gT := gT_in (List.mem_append_right _ (List.mem_append_left _ (List.mem_of_getElem? (i := 219) rfl))) rfl
theorem tw_323 : (Jvm.Cond.methodLink "BoyBishop$Past" (1 : Nat) ({ cls := "java/lang/Object", name := "<init>", desc := "()V" } : Jvm.MethodName)) ∈ gT := gT_in (List.mem_append_right _ (List.mem_append_right _ (List.mem_append_left _ (List.mem_of_getElem? (i := 83) rfl)))) rfl
theorem tw_324 : (Jvm.Cond.classLink "BoyBishop$Past" (9 : Nat) "BoyBishop$Standing") ∈ gT := gT_in (List.mem_append_right _ (List.mem_append_right _ (List.mem_append_left _ (List.mem_of_getElem? (i := 84) rfl)))) rfl
theorem tw_326 : (Jvm.Cond.methodLink "BoyBishop$Past" (15 : Nat) ({ cls := "BoyBishop$Standing", name := "<init>", desc := "()V" } : Jvm.MethodName)) ∈ gT := gT_in (List.mem_append_right _ (List.mem_append_right _ (List.mem_append_left _ (List.mem_of_getElem? (i := 86) rfl)))) rfl
theorem tw_343 : (Jvm.Cond.methodLink "BoyBishop$Poll" (3 : Nat) ({ cls := "java/lang/Object", name := "<init>", desc := "()V" } : Jvm.MethodName)) ∈ gT := gT_in (List.mem_append_right _ (List.mem_append_right _ (List.mem_append_left _ (List.mem_of_getElem? (i := 103) rfl)))) rfl
theorem tw_35 : (Jvm.Cond.methodLink "BoyBishop$Tape" (3 : Nat) ({ cls := "java/lang/Object", name := "<init>", desc := "()V" } : Jvm.MethodName)) ∈ gT := gT_in (List.mem_append_right _ (List.mem_append_left _ (List.mem_of_getElem? (i := 35) rfl))) rfl
theorem tw_378 : (Jvm.Cond.methodLink "BoyBishop$Days" (3 : Nat) ({ cls := "java/lang/Object", name := "<init>", desc := "()V" } : Jvm.MethodName)) ∈ gT := gT_in (List.mem_append_right _ (List.mem_append_right _ (List.mem_append_left _ (List.mem_of_getElem? (i := 138) rfl)))) rfl
theorem tw_399 : (Jvm.Cond.methodLink "BoyBishop$Chronicle" (3 : Nat) ({ cls := "java/lang/Object", name := "<init>", desc := "()V" } : Jvm.MethodName)) ∈ gT := gT_in (List.mem_append_right _ (List.mem_append_right _ (List.mem_append_left _ (List.mem_of_getElem? (i := 159) rfl)))) rfl
theorem tw_400 : (Jvm.Cond.classLink "BoyBishop$Chronicle" (15 : Nat) "BoyBishop$Standing") ∈ gT := gT_in (List.mem_append_right _ (List.mem_append_right _ (List.mem_append_left _ (List.mem_of_getElem? (i := 160) rfl)))) rfl
theorem tw_401 : (Jvm.Cond.methodLink "BoyBishop$Chronicle" (17 : Nat) ({ cls := "BoyBishop$Standing", name := "<init>", desc := "()V" } : Jvm.MethodName)) ∈ gT := gT_in (List.mem_append_right _ (List.mem_append_right _ (List.mem_append_left _ (List.mem_of_getElem? (i := 161) rfl)))) rfl
theorem tw_402 : (Jvm.Cond.classLink "BoyBishop$Chronicle" (26 : Nat) "BoyBishop$Choir") ∈ gT := gT_in (List.mem_append_right _ (List.mem_append_right _ (List.mem_append_left _ (List.mem_of_getElem? (i := 162) rfl)))) rfl
theorem tw_55 : (Jvm.Cond.arrayClass Jvm.ClassFile.FieldType.byte) ∈ gT := gT_in (List.mem_append_right _ (List.mem_append_left _ (List.mem_of_getElem? (i := 55) rfl))) rfl
theorem tw_61 : (Jvm.Cond.methodLink "BoyBishop$ChoirReader" (3 : Nat) ({ cls := "java/lang/Object", name := "<init>", desc := "()V" } : Jvm.MethodName)) ∈ gT := gT_in (List.mem_append_right _ (List.mem_append_left _ (List.mem_of_getElem? (i := 61) rfl))) rfl
theorem dX10_init_0 : decode cX10_init 0 = .ok (.aload_n 0, 1) := by decide +kernel
theorem dX10_init_1 : decode cX10_init 1 = .ok (.invokespecial 3, 3) := by decide +kernel
theorem dX10_init_4 : decode cX10_init 4 = .ok (.aload_n 0, 1) := by decide +kernel
theorem dX10_init_5 : decode cX10_init 5 = .ok (.aload_n 1, 1) := by decide +kernel
theorem dX10_init_6 : decode cX10_init 6 = .ok (.putfield 9, 3) := by decide +kernel
theorem dX10_init_9 : decode cX10_init 9 = .ok (.aload_n 0, 1) := by decide +kernel
theorem dX10_init_10 : decode cX10_init 10 = .ok (.new 15, 3) := by decide +kernel
theorem dX10_init_13 : decode cX10_init 13 = .ok (.dup, 1) := by decide +kernel
theorem dX10_init_14 : decode cX10_init 14 = .ok (.invokespecial 17, 3) := by decide +kernel
theorem dX10_init_17 : decode cX10_init 17 = .ok (.putfield 18, 3) := by decide +kernel
theorem dX10_init_20 : decode cX10_init 20 = .ok (.aload_n 0, 1) := by decide +kernel
theorem dX10_init_21 : decode cX10_init 21 = .ok (.iconst (-1), 1) := by decide +kernel
theorem dX10_init_22 : decode cX10_init 22 = .ok (.putfield 22, 3) := by decide +kernel
theorem dX10_init_25 : decode cX10_init 25 = .ok (.aload_n 0, 1) := by decide +kernel
theorem dX10_init_26 : decode cX10_init 26 = .ok (.bipush 10, 2) := by decide +kernel
theorem dX10_init_28 : decode cX10_init 28 = .ok (.newarray .int, 2) := by decide +kernel
theorem dX10_init_30 : decode cX10_init 30 = .ok (.putfield 26, 3) := by decide +kernel
theorem dX10_init_33 : decode cX10_init 33 = .ok (.aload_n 0, 1) := by decide +kernel
theorem dX10_init_34 : decode cX10_init 34 = .ok (.bipush 10, 2) := by decide +kernel
theorem dX10_init_36 : decode cX10_init 36 = .ok (.newarray .int, 2) := by decide +kernel
theorem dX10_init_38 : decode cX10_init 38 = .ok (.putfield 30, 3) := by decide +kernel
theorem dX10_init_41 : decode cX10_init 41 = .ok (.return_, 1) := by decide +kernel
theorem dX1_init_0 : decode cX1_init 0 = .ok (.aload_n 0, 1) := by decide +kernel
theorem dX1_init_1 : decode cX1_init 1 = .ok (.invokespecial 3, 3) := by decide +kernel
theorem dX1_init_4 : decode cX1_init 4 = .ok (.aload_n 0, 1) := by decide +kernel
theorem dX1_init_5 : decode cX1_init 5 = .ok (.new 9, 3) := by decide +kernel
theorem dX1_init_8 : decode cX1_init 8 = .ok (.dup, 1) := by decide +kernel
theorem dX1_init_9 : decode cX1_init 9 = .ok (.invokespecial 11, 3) := by decide +kernel
theorem dX1_init_12 : decode cX1_init 12 = .ok (.putfield 12, 3) := by decide +kernel
theorem dX1_init_15 : decode cX1_init 15 = .ok (.return_, 1) := by decide +kernel
theorem dX2_init_0 : decode cX2_init 0 = .ok (.aload_n 0, 1) := by decide +kernel
theorem dX2_init_1 : decode cX2_init 1 = .ok (.invokespecial 3, 3) := by decide +kernel
theorem dX2_init_4 : decode cX2_init 4 = .ok (.aload_n 0, 1) := by decide +kernel
theorem dX2_init_5 : decode cX2_init 5 = .ok (.aload_n 1, 1) := by decide +kernel
theorem dX2_init_6 : decode cX2_init 6 = .ok (.putfield 9, 3) := by decide +kernel
theorem dX2_init_9 : decode cX2_init 9 = .ok (.aload_n 0, 1) := by decide +kernel
theorem dX2_init_10 : decode cX2_init 10 = .ok (.new 15, 3) := by decide +kernel
theorem dX2_init_13 : decode cX2_init 13 = .ok (.dup, 1) := by decide +kernel
theorem dX2_init_14 : decode cX2_init 14 = .ok (.invokespecial 17, 3) := by decide +kernel
theorem dX2_init_17 : decode cX2_init 17 = .ok (.putfield 18, 3) := by decide +kernel
theorem dX2_init_20 : decode cX2_init 20 = .ok (.aload_n 0, 1) := by decide +kernel
theorem dX2_init_21 : decode cX2_init 21 = .ok (.sipush 427, 3) := by decide +kernel
theorem dX2_init_24 : decode cX2_init 24 = .ok (.newarray .int, 2) := by decide +kernel
theorem dX2_init_26 : decode cX2_init 26 = .ok (.putfield 22, 3) := by decide +kernel
theorem dX2_init_29 : decode cX2_init 29 = .ok (.aload_n 0, 1) := by decide +kernel
theorem dX2_init_30 : decode cX2_init 30 = .ok (.bipush 7, 2) := by decide +kernel
theorem dX2_init_32 : decode cX2_init 32 = .ok (.anewarray 26, 3) := by decide +kernel
theorem dX2_init_35 : decode cX2_init 35 = .ok (.putfield 28, 3) := by decide +kernel
theorem dX2_init_38 : decode cX2_init 38 = .ok (.return_, 1) := by decide +kernel
theorem dX3_init_0 : decode cX3_init 0 = .ok (.aload_n 0, 1) := by decide +kernel
theorem dX3_init_1 : decode cX3_init 1 = .ok (.invokespecial 3, 3) := by decide +kernel
theorem dX3_init_4 : decode cX3_init 4 = .ok (.aload_n 0, 1) := by decide +kernel
theorem dX3_init_5 : decode cX3_init 5 = .ok (.aload_n 1, 1) := by decide +kernel
theorem dX3_init_6 : decode cX3_init 6 = .ok (.putfield 9, 3) := by decide +kernel
theorem dX3_init_9 : decode cX3_init 9 = .ok (.return_, 1) := by decide +kernel
theorem dX4_init_0 : decode cX4_init 0 = .ok (.aload_n 0, 1) := by decide +kernel
theorem dX4_init_1 : decode cX4_init 1 = .ok (.invokespecial 1, 3) := by decide +kernel
theorem dX4_init_4 : decode cX4_init 4 = .ok (.aload_n 0, 1) := by decide +kernel
theorem dX4_init_5 : decode cX4_init 5 = .ok (.bipush 20, 2) := by decide +kernel
theorem dX4_init_7 : decode cX4_init 7 = .ok (.anewarray 9, 3) := by decide +kernel
theorem dX4_init_10 : decode cX4_init 10 = .ok (.putfield 11, 3) := by decide +kernel
theorem dX4_init_13 : decode cX4_init 13 = .ok (.iconst 0, 1) := by decide +kernel
theorem dX4_init_14 : decode cX4_init 14 = .ok (.istore_n 1, 1) := by decide +kernel
theorem dX4_init_15 : decode cX4_init 15 = .ok (.iload_n 1, 1) := by decide +kernel
theorem dX4_init_16 : decode cX4_init 16 = .ok (.bipush 20, 2) := by decide +kernel
theorem dX4_init_18 : decode cX4_init 18 = .ok (.if_icmp .ge 22, 3) := by decide +kernel
theorem dX4_init_21 : decode cX4_init 21 = .ok (.aload_n 0, 1) := by decide +kernel
theorem dX4_init_22 : decode cX4_init 22 = .ok (.getfield 11, 3) := by decide +kernel
theorem dX4_init_25 : decode cX4_init 25 = .ok (.iload_n 1, 1) := by decide +kernel
theorem dX4_init_26 : decode cX4_init 26 = .ok (.new 9, 3) := by decide +kernel
theorem dX4_init_29 : decode cX4_init 29 = .ok (.dup, 1) := by decide +kernel
theorem dX4_init_30 : decode cX4_init 30 = .ok (.invokespecial 15, 3) := by decide +kernel
theorem dX4_init_33 : decode cX4_init 33 = .ok (.aastore, 1) := by decide +kernel
theorem dX4_init_34 : decode cX4_init 34 = .ok (.iinc 1 1, 3) := by decide +kernel
theorem dX4_init_37 : decode cX4_init 37 = .ok (.goto (-22), 3) := by decide +kernel
theorem dX4_init_40 : decode cX4_init 40 = .ok (.return_, 1) := by decide +kernel
theorem dX5_init_0 : decode cX5_init 0 = .ok (.aload_n 0, 1) := by decide +kernel
theorem dX5_init_1 : decode cX5_init 1 = .ok (.invokespecial 3, 3) := by decide +kernel
theorem dX5_init_4 : decode cX5_init 4 = .ok (.aload_n 0, 1) := by decide +kernel
theorem dX5_init_5 : decode cX5_init 5 = .ok (.bipush 36, 2) := by decide +kernel
theorem dX5_init_7 : decode cX5_init 7 = .ok (.newarray .long, 2) := by decide +kernel
theorem dX5_init_9 : decode cX5_init 9 = .ok (.putfield 9, 3) := by decide +kernel
theorem dX5_init_12 : decode cX5_init 12 = .ok (.aload_n 0, 1) := by decide +kernel
theorem dX5_init_13 : decode cX5_init 13 = .ok (.bipush 6, 2) := by decide +kernel
theorem dX5_init_15 : decode cX5_init 15 = .ok (.newarray .int, 2) := by decide +kernel
theorem dX5_init_17 : decode cX5_init 17 = .ok (.putfield 15, 3) := by decide +kernel
theorem dX5_init_20 : decode cX5_init 20 = .ok (.aload_n 0, 1) := by decide +kernel
theorem dX5_init_21 : decode cX5_init 21 = .ok (.bipush 6, 2) := by decide +kernel
theorem dX5_init_23 : decode cX5_init 23 = .ok (.newarray .int, 2) := by decide +kernel
theorem dX5_init_25 : decode cX5_init 25 = .ok (.putfield 19, 3) := by decide +kernel
theorem dX5_init_28 : decode cX5_init 28 = .ok (.aload_n 0, 1) := by decide +kernel
theorem dX5_init_29 : decode cX5_init 29 = .ok (.bipush 11, 2) := by decide +kernel
theorem dX5_init_31 : decode cX5_init 31 = .ok (.newarray .long, 2) := by decide +kernel
theorem dX5_init_33 : decode cX5_init 33 = .ok (.putfield 24, 3) := by decide +kernel
theorem dX5_init_36 : decode cX5_init 36 = .ok (.aload_n 0, 1) := by decide +kernel
theorem dX5_init_37 : decode cX5_init 37 = .ok (.bipush 25, 2) := by decide +kernel
theorem dX5_init_39 : decode cX5_init 39 = .ok (.newarray .int, 2) := by decide +kernel
theorem dX5_init_41 : decode cX5_init 41 = .ok (.putfield 27, 3) := by decide +kernel
theorem dX5_init_44 : decode cX5_init 44 = .ok (.return_, 1) := by decide +kernel
theorem dX6_init_0 : decode cX6_init 0 = .ok (.aload_n 0, 1) := by decide +kernel
theorem dX6_init_1 : decode cX6_init 1 = .ok (.invokespecial 1, 3) := by decide +kernel
theorem dX6_init_4 : decode cX6_init 4 = .ok (.aload_n 0, 1) := by decide +kernel
theorem dX6_init_5 : decode cX6_init 5 = .ok (.sipush 400, 3) := by decide +kernel
theorem dX6_init_8 : decode cX6_init 8 = .ok (.newarray .int, 2) := by decide +kernel
theorem dX6_init_10 : decode cX6_init 10 = .ok (.putfield 9, 3) := by decide +kernel
theorem dX6_init_13 : decode cX6_init 13 = .ok (.aload_n 0, 1) := by decide +kernel
theorem dX6_init_14 : decode cX6_init 14 = .ok (.bipush 12, 2) := by decide +kernel
theorem dX6_init_16 : decode cX6_init 16 = .ok (.newarray .int, 2) := by decide +kernel
theorem dX6_init_18 : decode cX6_init 18 = .ok (.putfield 15, 3) := by decide +kernel
theorem dX6_init_21 : decode cX6_init 21 = .ok (.aload_n 0, 1) := by decide +kernel
theorem dX6_init_22 : decode cX6_init 22 = .ok (.bipush 12, 2) := by decide +kernel
theorem dX6_init_24 : decode cX6_init 24 = .ok (.newarray .int, 2) := by decide +kernel
theorem dX6_init_26 : decode cX6_init 26 = .ok (.putfield 18, 3) := by decide +kernel
theorem dX6_init_29 : decode cX6_init 29 = .ok (.aload_n 0, 1) := by decide +kernel
theorem dX6_init_30 : decode cX6_init 30 = .ok (.bipush 12, 2) := by decide +kernel
theorem dX6_init_32 : decode cX6_init 32 = .ok (.newarray .int, 2) := by decide +kernel
theorem dX6_init_34 : decode cX6_init 34 = .ok (.putfield 21, 3) := by decide +kernel
theorem dX6_init_37 : decode cX6_init 37 = .ok (.aload_n 0, 1) := by decide +kernel
theorem dX6_init_38 : decode cX6_init 38 = .ok (.bipush 32, 2) := by decide +kernel
theorem dX6_init_40 : decode cX6_init 40 = .ok (.newarray .long, 2) := by decide +kernel
theorem dX6_init_42 : decode cX6_init 42 = .ok (.putfield 24, 3) := by decide +kernel
theorem dX6_init_45 : decode cX6_init 45 = .ok (.return_, 1) := by decide +kernel
theorem dX7_init_0 : decode cX7_init 0 = .ok (.aload_n 0, 1) := by decide +kernel
theorem dX7_init_1 : decode cX7_init 1 = .ok (.invokespecial 3, 3) := by decide +kernel
theorem dX7_init_4 : decode cX7_init 4 = .ok (.return_, 1) := by decide +kernel
theorem dX8_init_0 : decode cX8_init 0 = .ok (.aload_n 0, 1) := by decide +kernel
theorem dX8_init_1 : decode cX8_init 1 = .ok (.invokespecial 3, 3) := by decide +kernel
theorem dX8_init_4 : decode cX8_init 4 = .ok (.aload_n 0, 1) := by decide +kernel
theorem dX8_init_5 : decode cX8_init 5 = .ok (.iconst (-1), 1) := by decide +kernel
theorem dX8_init_6 : decode cX8_init 6 = .ok (.putfield 9, 3) := by decide +kernel
theorem dX8_init_9 : decode cX8_init 9 = .ok (.aload_n 0, 1) := by decide +kernel
theorem dX8_init_10 : decode cX8_init 10 = .ok (.iconst (-1), 1) := by decide +kernel
theorem dX8_init_11 : decode cX8_init 11 = .ok (.putfield 15, 3) := by decide +kernel
theorem dX8_init_14 : decode cX8_init 14 = .ok (.aload_n 0, 1) := by decide +kernel
theorem dX8_init_15 : decode cX8_init 15 = .ok (.bipush 6, 2) := by decide +kernel
theorem dX8_init_17 : decode cX8_init 17 = .ok (.newarray .int, 2) := by decide +kernel
theorem dX8_init_19 : decode cX8_init 19 = .ok (.putfield 18, 3) := by decide +kernel
theorem dX8_init_22 : decode cX8_init 22 = .ok (.aload_n 0, 1) := by decide +kernel
theorem dX8_init_23 : decode cX8_init 23 = .ok (.bipush 6, 2) := by decide +kernel
theorem dX8_init_25 : decode cX8_init 25 = .ok (.newarray .int, 2) := by decide +kernel
theorem dX8_init_27 : decode cX8_init 27 = .ok (.putfield 22, 3) := by decide +kernel
theorem dX8_init_30 : decode cX8_init 30 = .ok (.aload_n 0, 1) := by decide +kernel
theorem dX8_init_31 : decode cX8_init 31 = .ok (.bipush 6, 2) := by decide +kernel
theorem dX8_init_33 : decode cX8_init 33 = .ok (.newarray .int, 2) := by decide +kernel
theorem dX8_init_35 : decode cX8_init 35 = .ok (.putfield 25, 3) := by decide +kernel
theorem dX8_init_38 : decode cX8_init 38 = .ok (.aload_n 0, 1) := by decide +kernel
theorem dX8_init_39 : decode cX8_init 39 = .ok (.iconst 4, 1) := by decide +kernel
theorem dX8_init_40 : decode cX8_init 40 = .ok (.newarray .int, 2) := by decide +kernel
theorem dX8_init_42 : decode cX8_init 42 = .ok (.putfield 28, 3) := by decide +kernel
theorem dX8_init_45 : decode cX8_init 45 = .ok (.aload_n 0, 1) := by decide +kernel
theorem dX8_init_46 : decode cX8_init 46 = .ok (.iconst 4, 1) := by decide +kernel
theorem dX8_init_47 : decode cX8_init 47 = .ok (.newarray .int, 2) := by decide +kernel
theorem dX8_init_49 : decode cX8_init 49 = .ok (.putfield 31, 3) := by decide +kernel
theorem dX8_init_52 : decode cX8_init 52 = .ok (.aload_n 0, 1) := by decide +kernel
theorem dX8_init_53 : decode cX8_init 53 = .ok (.bipush 6, 2) := by decide +kernel
theorem dX8_init_55 : decode cX8_init 55 = .ok (.newarray .int, 2) := by decide +kernel
theorem dX8_init_57 : decode cX8_init 57 = .ok (.putfield 34, 3) := by decide +kernel
theorem dX8_init_60 : decode cX8_init 60 = .ok (.return_, 1) := by decide +kernel
theorem dX9_init_0 : decode cX9_init 0 = .ok (.aload_n 0, 1) := by decide +kernel
theorem dX9_init_1 : decode cX9_init 1 = .ok (.invokespecial 3, 3) := by decide +kernel
theorem dX9_init_4 : decode cX9_init 4 = .ok (.aload_n 0, 1) := by decide +kernel
theorem dX9_init_5 : decode cX9_init 5 = .ok (.sipush 400, 3) := by decide +kernel
theorem dX9_init_8 : decode cX9_init 8 = .ok (.newarray .byte, 2) := by decide +kernel
theorem dX9_init_10 : decode cX9_init 10 = .ok (.putfield 11, 3) := by decide +kernel
theorem dX9_init_13 : decode cX9_init 13 = .ok (.return_, 1) := by decide +kernel
theorem dfX8 : ∀ j, j < 13 → defaultValue (tyX8 j) = vp_V [.int 0, .int 0, .int 0, .int 0, .int 0, .int 0, .int 0, .null, .null, .null, .null, .null, .null] j
  | 0, _ => rfl
  | 1, _ => rfl
  | 2, _ => rfl
  | 3, _ => rfl
  | 4, _ => rfl
  | 5, _ => rfl
  | 6, _ => rfl
  | 7, _ => rfl
  | 8, _ => rfl
  | 9, _ => rfl
  | 10, _ => rfl
  | 11, _ => rfl
  | 12, _ => rfl
  | _ + 13, h => absurd h (by omega)
set_option maxHeartbeats 4000000 in
set_option maxRecDepth 100000 in
theorem k_X9_init (l : Launch) (dC : Nat → ClassId) (dI : Nat → Nat → Nat) (tys : List (ClassId × FieldType)) (κ : tK) (B : Nat) (ws : va_W) (hT : Ty κ tys B ws) (a0 : Nat) (n_a0 : κ a0 = none) (c_a0 : cAt ws a0 (.inr (9, [.null, .int 0, .int 0, .int 0]))) (sz : Nat) : Met l yX9_init (ws_u yX9_init cX9_init 1 none) ({ frames := 1, cells := 1, slots := 400, locals := 28 }) (va_Pc [.ref a0] (cPre (dC, dI) tys ws sz)) (va_Qv (fun (u : va_W × tK × List (ClassId × FieldType)) => Ty u.2.1 u.2.2 B u.1 ∧ SubT tys u.2.2 ∧ Gr κ u.2.1 ws u.1 a0 ∧ u.2.1 a0 = some 9) (fun u t => cPost (dC, dI) u.2.2 u.1 (va_A ws sz) t) (va_A ws sz)) 1 400 (va_A ws sz) := by
  refine Met.ofW (cc := cX9_init) (maxL := 1) (ret := none) (by decide) rfl ?_
  intro p e s m args below meth c s₁ B0 hml hv
  obtain ⟨rfl, hsz, hP, hK, hD0, hE⟩ := hv
  have hx := B0.exec
  have hb := B0.bytes
  have hr := B0.returns
  have hts0 := atoms_spec (ws := ws_u yX9_init cX9_init 1 none) B0.pre
  have hts : ∀ w ∈ gT, w.before _ s = true := fun w h => hts0 w (List.mem_cons_of_mem _ h)
  have hown : s.vm.findClass RX9 = some m.cls := findClass_of_methodNamed B0.named
  have hin : meth.name = "<init>" := (name_of_methodNamed B0.named B0.method).1
  subst hsz
  have hD := hD0.self (sz := s.heap.size)
  generalize hAe : va_A ws s.heap.size = A at hD ⊢
  have hA : ∀ q : Nat, s.heap.size ≤ q → A q := fun q h => by rw [← hAe]; exact Or.inr h
  have hw : tW (dC, dI) tys κ B A s ws s.heap [] := ⟨hK, hP, hD, va_S.rf, hT⟩
  have hG : Gr κ κ ws ws a0 := Gr.rf
  have hTs : SubT tys tys := SubT.rf
  clear hP hK hD hD0 hts0
  have hl := lv_entry ([.ref a0]) (n := 1) (Nat.le_of_ble_eq_true rfl)
  rw [lg_entry_eq]
  generalize (lg_sl ([.ref a0]) ++ List.replicate (1 - (lg_sl ([.ref a0])).length) Slot.unset).toArray = ls at hl ⊢
  have hl : lv_has ls 1 [(0, .ref a0)] := hl
  refine lv_aload_n hx hb dX9_init_0 rfl (lv_at hl 0 rfl) ?_
  refine W.objInit hx hb hown (hts _ tw_35) (hts _ tw_28) (hts _ tw_29) rfl (by rw [hml]; exact hl.1) rfl dX9_init_1 (Nat.le_of_ble_eq_true rfl) (Nat.le_of_ble_eq_true rfl) ?_
  refine W.eq (g2 := F0 m 4 ls []) rfl ?_
  refine lv_aload_n hx hb dX9_init_4 rfl (lv_at hl 0 rfl) ?_
  refine lv_sipush (v := 400) hx hb dX9_init_5 (by decide) ?_
  refine va_newa (D := (dC, dI)) (a0 := (400, .inl (fun _ => 0))) (N' := 400) (ty := .byte) (atype := .byte) hx hb (hts _ tw_55) rfl hw.1 hw.2.1 hw.2.2.1 hw.2.2.2.1 hA (fun _ => rfl) (by decide) (by decide) (Nat.le_of_ble_eq_true rfl) (Nat.le_of_ble_eq_true rfl) (Nat.le_of_ble_eq_true rfl) dX9_init_8 (fun q_1 k_2 H hK hP hD hS => ?_)
  have hf := fr_new hD
  have ne_a0_q_1 : a0 ≠ q_1 := fun z => hf _ (z ▸ c_a0)
  obtain ⟨κ_3, hTy, hEx, k_q_1, hno⟩ := newA (k := 49) hw.2.2.2.2 hD (SubT.app (t' := [(k_2, .byte)])) (fun _ => Or.inr (Or.inl ⟨rfl, k_2, tys.length, _, at_last, rfl, fun j hj => ⟨(by decide : (-2147483648 : Int) ≤ (0 : Int32).toInt), (by decide : (0 : Int32).toInt ≤ (2147483647 : Int))⟩⟩))
  have hG := hG.newA (w1 := [(q_1, .inl (k_2, 400, .inl (fun _ => 0)))]) hEx hno
  have n_a0 : κ_3 a0 = none := by rw [hno _ _ c_a0]; exact n_a0
  have c_a0 := c_a0.app (w1 := [(q_1, .inl (k_2, 400, .inl (fun _ => 0)))])
  have hTs := hTs.trans (SubT.app (t' := [(k_2, .byte)]))
  have c_q_1 : cAt (ws ++ [(q_1, .inl (k_2, 400, .inl (fun _ => 0)))]) q_1 (.inl (k_2, 400, .inl (fun _ => 0))) := cAt_last
  have hw : tW (dC, dI) (tys ++ [(k_2, .byte)]) κ_3 B A s (ws ++ [(q_1, .inl (k_2, 400, .inl (fun _ => 0)))]) H [] := ⟨hK, hP, hD, hS, hTy⟩
  clear hf hP hD hS hEx hno hTy hK
  generalize (ws ++ [(q_1, .inl (k_2, 400, .inl (fun _ => 0)))]) = w_4 at hw hG c_q_1 c_a0
  generalize (tys ++ [(k_2, .byte)]) = y_5 at hw hTs 
  clear c_q_1
  refine t_putUF (ci := 9) (v := .ref q_1) (C := RX9) (T := TX9) (N := 4) hx hb hts iX9 tyX9 tyX9_ok nmX9 hown hw c_a0 n_a0 rfl 0 (by decide) (hts _ tw_36) (fun _ h9 => h9) rfl hin rfl (tyX9_ok 0 (by decide)) rfl rfl (Nat.le_of_ble_eq_true rfl) dX9_init_10 (fun w_6 H locs hw hk c_a0 => ?_)
  have c_a0 : cAt w_6 a0 (.inr (9, [.ref q_1, .int 0, .int 0, .int 0])) := c_a0
  have hG := hG.set hk (Or.inl rfl)
  have hok : okE (kap κ_3 [(a0, 9)]) y_5 B 9 (.inr (9, [.ref q_1, .int 0, .int 0, .int 0])) := by
    refine Or.inl ⟨rfl, _, rfl, rfl, fun j y hy => ?_⟩
    match j, hy with
    | 0, hy => cases hy; exact okV.ref (k := 49) rfl (typeE n_a0 _ _ k_q_1)
    | 1, hy => cases hy; exact okV.int rfl (by decide) (by decide)
    | 2, hy => cases hy; exact okV.int rfl (by decide) (by decide)
    | 3, hy => cases hy; exact okV.int rfl (by decide) (by decide)
    | j + 4, hy => simp at hy
  have hTy := typeO (k := 9) hw.2.2.2.2 n_a0 c_a0 hok
  clear hok
  have hw : tW (dC, dI) y_5 (kap κ_3 [(a0, 9)]) B A s w_6 H locs := ⟨hw.1, hw.2.1, hw.2.2.1, hw.2.2.2.1, hTy⟩
  clear hTy
  have hG := hG.typ (k := 9) n_a0
  have k_q_1 := typeE (a := a0) (k := 9) n_a0 _ _ k_q_1
  have k_a0 : (kap κ_3 [(a0, 9)]) a0 = some 9 := typeK
  clear n_a0
  generalize (kap κ_3 [(a0, 9)]) = κ_7 at hw hG k_q_1 k_a0
  refine W.widen (k := 1) (n := 400) (Nat.le_of_ble_eq_true rfl) (Nat.le_of_ble_eq_true rfl) ?_
  exact W.vret hx hb hr (fun t ht hW => ⟨⟨(w_6, κ_7, y_5), rfl, ⟨hw.2.2.2.2, hTs, hG, k_a0⟩, by rw [ht]; exact hw.2.1, va_K.moved hW.alike hw.1, hw.2.2.1⟩, hw.2.2.2.1.F ht⟩) hw.2.2.2.1.2.2 dX9_init_13
set_option maxHeartbeats 4000000 in
set_option maxRecDepth 100000 in
theorem k_X0_init (l : Launch) (dC : Nat → ClassId) (dI : Nat → Nat → Nat) (tys : List (ClassId × FieldType)) (κ : tK) (B : Nat) (ws : va_W) (hT : Ty κ tys B ws) (a0 : Nat) (n_a0 : κ a0 = none) (c_a0 : cAt ws a0 (.inr (0, [.int 0, .int 0, .int 0, .int 0, .int 0, .int 0, .null, .null, .null, .null, .null, .null, .null, .null, .null, .null]))) (sz : Nat) : Met l yX0_init (ws_u yX0_init cX0_init 1 none) ({ frames := 1, cells := 10, slots := 184, locals := 28 }) (va_Pc [.ref a0] (cPre (dC, dI) tys ws sz)) (va_Qv (fun (u : va_W × tK × List (ClassId × FieldType)) => Ty u.2.1 u.2.2 B u.1 ∧ SubT tys u.2.2 ∧ Gr κ u.2.1 ws u.1 a0 ∧ u.2.1 a0 = some 0) (fun u t => cPost (dC, dI) u.2.2 u.1 (va_A ws sz) t) (va_A ws sz)) 10 184 (va_A ws sz) := by
  refine Met.ofW (cc := cX0_init) (maxL := 1) (ret := none) (by decide) rfl ?_
  intro p e s m args below meth c s₁ B0 hml hv
  obtain ⟨rfl, hsz, hP, hK, hD0, hE⟩ := hv
  have hx := B0.exec
  have hb := B0.bytes
  have hr := B0.returns
  have hts0 := atoms_spec (ws := ws_u yX0_init cX0_init 1 none) B0.pre
  have hts : ∀ w ∈ gT, w.before _ s = true := fun w h => hts0 w (List.mem_cons_of_mem _ h)
  have hown : s.vm.findClass RX0 = some m.cls := findClass_of_methodNamed B0.named
  have hin : meth.name = "<init>" := (name_of_methodNamed B0.named B0.method).1
  subst hsz
  have hD := hD0.self (sz := s.heap.size)
  generalize hAe : va_A ws s.heap.size = A at hD ⊢
  have hA : ∀ q : Nat, s.heap.size ≤ q → A q := fun q h => by rw [← hAe]; exact Or.inr h
  have hw : tW (dC, dI) tys κ B A s ws s.heap [] := ⟨hK, hP, hD, va_S.rf, hT⟩
  have hG : Gr κ κ ws ws a0 := Gr.rf
  have hTs : SubT tys tys := SubT.rf
  clear hP hK hD hD0 hts0
  have hl := lv_entry ([.ref a0]) (n := 1) (Nat.le_of_ble_eq_true rfl)
  rw [lg_entry_eq]
  generalize (lg_sl ([.ref a0]) ++ List.replicate (1 - (lg_sl ([.ref a0])).length) Slot.unset).toArray = ls at hl ⊢
  have hl : lv_has ls 1 [(0, .ref a0)] := hl
  refine lv_aload_n hx hb dX0_init_0 rfl (lv_at hl 0 rfl) ?_
  refine W.objInit hx hb hown (hts _ tw_67) (hts _ tw_28) (hts _ tw_29) rfl (by rw [hml]; exact hl.1) rfl dX0_init_1 (Nat.le_of_ble_eq_true rfl) (Nat.le_of_ble_eq_true rfl) ?_
  refine W.eq (g2 := F0 m 4 ls []) rfl ?_
  refine lv_aload_n hx hb dX0_init_4 rfl (lv_at hl 0 rfl) ?_
  refine lv_bipush (v := 6) hx hb dX0_init_5 (by decide) ?_
  refine va_newa (D := (dC, dI)) (a0 := (6, .inl (fun _ => 0))) (N' := 6) (ty := .int) (atype := .int) hx hb (hts _ tw_154) rfl hw.1 hw.2.1 hw.2.2.1 hw.2.2.2.1 hA (fun _ => rfl) (by decide) (by decide) (Nat.le_of_ble_eq_true rfl) (Nat.le_of_ble_eq_true rfl) (Nat.le_of_ble_eq_true rfl) dX0_init_7 (fun q_1 k_2 H hK hP hD hS => ?_)
  have hf := fr_new hD
  have ne_a0_q_1 : a0 ≠ q_1 := fun z => hf _ (z ▸ c_a0)
  obtain ⟨κ_3, hTy, hEx, k_q_1, hno⟩ := newA (k := 20) hw.2.2.2.2 hD (SubT.app (t' := [(k_2, .int)])) (fun _ => Or.inr (Or.inl ⟨rfl, k_2, tys.length, _, at_last, rfl, fun j hj => ⟨(by decide : (-2147483648 : Int) ≤ (0 : Int32).toInt), (by decide : (0 : Int32).toInt ≤ (2147483647 : Int))⟩⟩))
  have hG := hG.newA (w1 := [(q_1, .inl (k_2, 6, .inl (fun _ => 0)))]) hEx hno
  have n_a0 : κ_3 a0 = none := by rw [hno _ _ c_a0]; exact n_a0
  have c_a0 := c_a0.app (w1 := [(q_1, .inl (k_2, 6, .inl (fun _ => 0)))])
  have hTs := hTs.trans (SubT.app (t' := [(k_2, .int)]))
  have c_q_1 : cAt (ws ++ [(q_1, .inl (k_2, 6, .inl (fun _ => 0)))]) q_1 (.inl (k_2, 6, .inl (fun _ => 0))) := cAt_last
  have hw : tW (dC, dI) (tys ++ [(k_2, .int)]) κ_3 B A s (ws ++ [(q_1, .inl (k_2, 6, .inl (fun _ => 0)))]) H [] := ⟨hK, hP, hD, hS, hTy⟩
  clear hf hP hD hS hEx hno hTy hK
  generalize (ws ++ [(q_1, .inl (k_2, 6, .inl (fun _ => 0)))]) = w_4 at hw hG c_q_1 c_a0
  generalize (tys ++ [(k_2, .int)]) = y_5 at hw hTs 
  clear c_q_1
  refine t_putUF (ci := 0) (v := .ref q_1) (C := RX0) (T := TX0) (N := 16) hx hb hts iX0 tyX0 tyX0_ok nmX0 hown hw c_a0 n_a0 rfl 6 (by decide) (hts _ tw_90) (fun _ h9 => h9) rfl hin rfl (tyX0_ok 6 (by decide)) rfl rfl (Nat.le_of_ble_eq_true rfl) dX0_init_9 (fun w_6 H locs hw hk c_a0 => ?_)
  have c_a0 : cAt w_6 a0 (.inr (0, [.int 0, .int 0, .int 0, .int 0, .int 0, .int 0, .ref q_1, .null, .null, .null, .null, .null, .null, .null, .null, .null])) := c_a0
  have hG := hG.set hk (Or.inl rfl)
  refine lv_aload_n hx hb dX0_init_12 rfl (lv_at hl 0 rfl) ?_
  refine lv_bipush (v := 6) hx hb dX0_init_13 (by decide) ?_
  refine va_newa (D := (dC, dI)) (a0 := (6, .inl (fun _ => 0))) (N' := 6) (ty := .int) (atype := .int) hx hb (hts _ tw_154) rfl hw.1 hw.2.1 hw.2.2.1 hw.2.2.2.1 hA (fun _ => rfl) (by decide) (by decide) (Nat.le_of_ble_eq_true rfl) (Nat.le_of_ble_eq_true rfl) (Nat.le_of_ble_eq_true rfl) dX0_init_15 (fun q_7 k_8 H hK hP hD hS => ?_)
  have hf := fr_new hD
  have ne_a0_q_7 : a0 ≠ q_7 := fun z => hf _ (z ▸ c_a0)
  obtain ⟨κ_9, hTy, hEx, k_q_7, hno⟩ := newA (k := 21) hw.2.2.2.2 hD (SubT.app (t' := [(k_8, .int)])) (fun _ => Or.inr (Or.inl ⟨rfl, k_8, y_5.length, _, at_last, rfl, fun j hj => ⟨(by decide : (-2147483648 : Int) ≤ (0 : Int32).toInt), (by decide : (0 : Int32).toInt ≤ (2147483647 : Int))⟩⟩))
  have hG := hG.newA (w1 := [(q_7, .inl (k_8, 6, .inl (fun _ => 0)))]) hEx hno
  have n_a0 : κ_9 a0 = none := by rw [hno _ _ c_a0]; exact n_a0
  have k_q_1 := hEx _ _ k_q_1
  have c_a0 := c_a0.app (w1 := [(q_7, .inl (k_8, 6, .inl (fun _ => 0)))])
  have hTs := hTs.trans (SubT.app (t' := [(k_8, .int)]))
  have c_q_7 : cAt (w_6 ++ [(q_7, .inl (k_8, 6, .inl (fun _ => 0)))]) q_7 (.inl (k_8, 6, .inl (fun _ => 0))) := cAt_last
  have hw : tW (dC, dI) (y_5 ++ [(k_8, .int)]) κ_9 B A s (w_6 ++ [(q_7, .inl (k_8, 6, .inl (fun _ => 0)))]) H locs := ⟨hK, hP, hD, hS, hTy⟩
  clear hf hP hD hS hEx hno hTy hK
  generalize (w_6 ++ [(q_7, .inl (k_8, 6, .inl (fun _ => 0)))]) = w_10 at hw hG c_q_7 c_a0
  generalize (y_5 ++ [(k_8, .int)]) = y_11 at hw hTs 
  clear c_q_7
  refine t_putUF (ci := 0) (v := .ref q_7) (C := RX0) (T := TX0) (N := 16) hx hb hts iX0 tyX0 tyX0_ok nmX0 hown hw c_a0 n_a0 rfl 7 (by decide) (hts _ tw_93) (fun _ h9 => h9) rfl hin rfl (tyX0_ok 7 (by decide)) rfl rfl (Nat.le_of_ble_eq_true rfl) dX0_init_17 (fun w_12 H locs hw hk c_a0 => ?_)
  have c_a0 : cAt w_12 a0 (.inr (0, [.int 0, .int 0, .int 0, .int 0, .int 0, .int 0, .ref q_1, .ref q_7, .null, .null, .null, .null, .null, .null, .null, .null])) := c_a0
  have hG := hG.set hk (Or.inl rfl)
  refine lv_aload_n hx hb dX0_init_20 rfl (lv_at hl 0 rfl) ?_
  refine lv_bipush (v := 6) hx hb dX0_init_21 (by decide) ?_
  refine va_newa (D := (dC, dI)) (a0 := (6, .inl (fun _ => 0))) (N' := 6) (ty := .int) (atype := .int) hx hb (hts _ tw_154) rfl hw.1 hw.2.1 hw.2.2.1 hw.2.2.2.1 hA (fun _ => rfl) (by decide) (by decide) (Nat.le_of_ble_eq_true rfl) (Nat.le_of_ble_eq_true rfl) (Nat.le_of_ble_eq_true rfl) dX0_init_23 (fun q_13 k_14 H hK hP hD hS => ?_)
  have hf := fr_new hD
  have ne_a0_q_13 : a0 ≠ q_13 := fun z => hf _ (z ▸ c_a0)
  obtain ⟨κ_15, hTy, hEx, k_q_13, hno⟩ := newA (k := 22) hw.2.2.2.2 hD (SubT.app (t' := [(k_14, .int)])) (fun _ => Or.inr (Or.inl ⟨rfl, k_14, y_11.length, _, at_last, rfl, fun j hj => ⟨(by decide : (-2147483648 : Int) ≤ (0 : Int32).toInt), (by decide : (0 : Int32).toInt ≤ (2147483647 : Int))⟩⟩))
  have hG := hG.newA (w1 := [(q_13, .inl (k_14, 6, .inl (fun _ => 0)))]) hEx hno
  have n_a0 : κ_15 a0 = none := by rw [hno _ _ c_a0]; exact n_a0
  have k_q_1 := hEx _ _ k_q_1
  have k_q_7 := hEx _ _ k_q_7
  have c_a0 := c_a0.app (w1 := [(q_13, .inl (k_14, 6, .inl (fun _ => 0)))])
  have hTs := hTs.trans (SubT.app (t' := [(k_14, .int)]))
  have c_q_13 : cAt (w_12 ++ [(q_13, .inl (k_14, 6, .inl (fun _ => 0)))]) q_13 (.inl (k_14, 6, .inl (fun _ => 0))) := cAt_last
  have hw : tW (dC, dI) (y_11 ++ [(k_14, .int)]) κ_15 B A s (w_12 ++ [(q_13, .inl (k_14, 6, .inl (fun _ => 0)))]) H locs := ⟨hK, hP, hD, hS, hTy⟩
  clear hf hP hD hS hEx hno hTy hK
  generalize (w_12 ++ [(q_13, .inl (k_14, 6, .inl (fun _ => 0)))]) = w_16 at hw hG c_q_13 c_a0
  generalize (y_11 ++ [(k_14, .int)]) = y_17 at hw hTs 
  clear c_q_13
  refine t_putUF (ci := 0) (v := .ref q_13) (C := RX0) (T := TX0) (N := 16) hx hb hts iX0 tyX0 tyX0_ok nmX0 hown hw c_a0 n_a0 rfl 8 (by decide) (hts _ tw_96) (fun _ h9 => h9) rfl hin rfl (tyX0_ok 8 (by decide)) rfl rfl (Nat.le_of_ble_eq_true rfl) dX0_init_25 (fun w_18 H locs hw hk c_a0 => ?_)
  have c_a0 : cAt w_18 a0 (.inr (0, [.int 0, .int 0, .int 0, .int 0, .int 0, .int 0, .ref q_1, .ref q_7, .ref q_13, .null, .null, .null, .null, .null, .null, .null])) := c_a0
  have hG := hG.set hk (Or.inl rfl)
  refine lv_aload_n hx hb dX0_init_28 rfl (lv_at hl 0 rfl) ?_
  refine lv_bipush (v := 36) hx hb dX0_init_29 (by decide) ?_
  refine va_newa (D := (dC, dI)) (a0 := (36, .inl (fun _ => 0))) (N' := 36) (ty := .int) (atype := .int) hx hb (hts _ tw_154) rfl hw.1 hw.2.1 hw.2.2.1 hw.2.2.2.1 hA (fun _ => rfl) (by decide) (by decide) (Nat.le_of_ble_eq_true rfl) (Nat.le_of_ble_eq_true rfl) (Nat.le_of_ble_eq_true rfl) dX0_init_31 (fun q_19 k_20 H hK hP hD hS => ?_)
  have hf := fr_new hD
  have ne_a0_q_19 : a0 ≠ q_19 := fun z => hf _ (z ▸ c_a0)
  obtain ⟨κ_21, hTy, hEx, k_q_19, hno⟩ := newA (k := 23) hw.2.2.2.2 hD (SubT.app (t' := [(k_20, .int)])) (fun _ => Or.inr (Or.inl ⟨rfl, k_20, y_17.length, _, at_last, rfl, fun j hj => ⟨(by decide : (-2147483648 : Int) ≤ (0 : Int32).toInt), (by decide : (0 : Int32).toInt ≤ (2147483647 : Int))⟩⟩))
  have hG := hG.newA (w1 := [(q_19, .inl (k_20, 36, .inl (fun _ => 0)))]) hEx hno
  have n_a0 : κ_21 a0 = none := by rw [hno _ _ c_a0]; exact n_a0
  have k_q_1 := hEx _ _ k_q_1
  have k_q_7 := hEx _ _ k_q_7
  have k_q_13 := hEx _ _ k_q_13
  have c_a0 := c_a0.app (w1 := [(q_19, .inl (k_20, 36, .inl (fun _ => 0)))])
  have hTs := hTs.trans (SubT.app (t' := [(k_20, .int)]))
  have c_q_19 : cAt (w_18 ++ [(q_19, .inl (k_20, 36, .inl (fun _ => 0)))]) q_19 (.inl (k_20, 36, .inl (fun _ => 0))) := cAt_last
  have hw : tW (dC, dI) (y_17 ++ [(k_20, .int)]) κ_21 B A s (w_18 ++ [(q_19, .inl (k_20, 36, .inl (fun _ => 0)))]) H locs := ⟨hK, hP, hD, hS, hTy⟩
  clear hf hP hD hS hEx hno hTy hK
  generalize (w_18 ++ [(q_19, .inl (k_20, 36, .inl (fun _ => 0)))]) = w_22 at hw hG c_q_19 c_a0
  generalize (y_17 ++ [(k_20, .int)]) = y_23 at hw hTs 
  clear c_q_19
  refine t_putUF (ci := 0) (v := .ref q_19) (C := RX0) (T := TX0) (N := 16) hx hb hts iX0 tyX0 tyX0_ok nmX0 hown hw c_a0 n_a0 rfl 9 (by decide) (hts _ tw_101) (fun _ h9 => h9) rfl hin rfl (tyX0_ok 9 (by decide)) rfl rfl (Nat.le_of_ble_eq_true rfl) dX0_init_33 (fun w_24 H locs hw hk c_a0 => ?_)
  have c_a0 : cAt w_24 a0 (.inr (0, [.int 0, .int 0, .int 0, .int 0, .int 0, .int 0, .ref q_1, .ref q_7, .ref q_13, .ref q_19, .null, .null, .null, .null, .null, .null])) := c_a0
  have hG := hG.set hk (Or.inl rfl)
  refine lv_aload_n hx hb dX0_init_36 rfl (lv_at hl 0 rfl) ?_
  refine lv_iconst (v := 4) hx hb dX0_init_37 (by decide) ?_
  refine va_newa (D := (dC, dI)) (a0 := (4, .inl (fun _ => 0))) (N' := 4) (ty := .int) (atype := .int) hx hb (hts _ tw_154) rfl hw.1 hw.2.1 hw.2.2.1 hw.2.2.2.1 hA (fun _ => rfl) (by decide) (by decide) (Nat.le_of_ble_eq_true rfl) (Nat.le_of_ble_eq_true rfl) (Nat.le_of_ble_eq_true rfl) dX0_init_38 (fun q_25 k_26 H hK hP hD hS => ?_)
  have hf := fr_new hD
  have ne_a0_q_25 : a0 ≠ q_25 := fun z => hf _ (z ▸ c_a0)
  obtain ⟨κ_27, hTy, hEx, k_q_25, hno⟩ := newA (k := 24) hw.2.2.2.2 hD (SubT.app (t' := [(k_26, .int)])) (fun _ => Or.inr (Or.inl ⟨rfl, k_26, y_23.length, _, at_last, rfl, fun j hj => ⟨(by decide : (-2147483648 : Int) ≤ (0 : Int32).toInt), (by decide : (0 : Int32).toInt ≤ (2147483647 : Int))⟩⟩))
  have hG := hG.newA (w1 := [(q_25, .inl (k_26, 4, .inl (fun _ => 0)))]) hEx hno
  have n_a0 : κ_27 a0 = none := by rw [hno _ _ c_a0]; exact n_a0
  have k_q_1 := hEx _ _ k_q_1
  have k_q_7 := hEx _ _ k_q_7
  have k_q_13 := hEx _ _ k_q_13
  have k_q_19 := hEx _ _ k_q_19
  have c_a0 := c_a0.app (w1 := [(q_25, .inl (k_26, 4, .inl (fun _ => 0)))])
  have hTs := hTs.trans (SubT.app (t' := [(k_26, .int)]))
  have c_q_25 : cAt (w_24 ++ [(q_25, .inl (k_26, 4, .inl (fun _ => 0)))]) q_25 (.inl (k_26, 4, .inl (fun _ => 0))) := cAt_last
  have hw : tW (dC, dI) (y_23 ++ [(k_26, .int)]) κ_27 B A s (w_24 ++ [(q_25, .inl (k_26, 4, .inl (fun _ => 0)))]) H locs := ⟨hK, hP, hD, hS, hTy⟩
  clear hf hP hD hS hEx hno hTy hK
  generalize (w_24 ++ [(q_25, .inl (k_26, 4, .inl (fun _ => 0)))]) = w_28 at hw hG c_q_25 c_a0
  generalize (y_23 ++ [(k_26, .int)]) = y_29 at hw hTs 
  clear c_q_25
  refine t_putUF (ci := 0) (v := .ref q_25) (C := RX0) (T := TX0) (N := 16) hx hb hts iX0 tyX0 tyX0_ok nmX0 hown hw c_a0 n_a0 rfl 10 (by decide) (hts _ tw_105) (fun _ h9 => h9) rfl hin rfl (tyX0_ok 10 (by decide)) rfl rfl (Nat.le_of_ble_eq_true rfl) dX0_init_40 (fun w_30 H locs hw hk c_a0 => ?_)
  have c_a0 : cAt w_30 a0 (.inr (0, [.int 0, .int 0, .int 0, .int 0, .int 0, .int 0, .ref q_1, .ref q_7, .ref q_13, .ref q_19, .ref q_25, .null, .null, .null, .null, .null])) := c_a0
  have hG := hG.set hk (Or.inl rfl)
  refine lv_aload_n hx hb dX0_init_43 rfl (lv_at hl 0 rfl) ?_
  refine lv_iconst (v := 4) hx hb dX0_init_44 (by decide) ?_
  refine va_newa (D := (dC, dI)) (a0 := (4, .inl (fun _ => 0))) (N' := 4) (ty := .int) (atype := .int) hx hb (hts _ tw_154) rfl hw.1 hw.2.1 hw.2.2.1 hw.2.2.2.1 hA (fun _ => rfl) (by decide) (by decide) (Nat.le_of_ble_eq_true rfl) (Nat.le_of_ble_eq_true rfl) (Nat.le_of_ble_eq_true rfl) dX0_init_45 (fun q_31 k_32 H hK hP hD hS => ?_)
  have hf := fr_new hD
  have ne_a0_q_31 : a0 ≠ q_31 := fun z => hf _ (z ▸ c_a0)
  obtain ⟨κ_33, hTy, hEx, k_q_31, hno⟩ := newA (k := 25) hw.2.2.2.2 hD (SubT.app (t' := [(k_32, .int)])) (fun _ => Or.inr (Or.inl ⟨rfl, k_32, y_29.length, _, at_last, rfl, fun j hj => ⟨(by decide : (-2147483648 : Int) ≤ (0 : Int32).toInt), (by decide : (0 : Int32).toInt ≤ (2147483647 : Int))⟩⟩))
  have hG := hG.newA (w1 := [(q_31, .inl (k_32, 4, .inl (fun _ => 0)))]) hEx hno
  have n_a0 : κ_33 a0 = none := by rw [hno _ _ c_a0]; exact n_a0
  have k_q_1 := hEx _ _ k_q_1
  have k_q_7 := hEx _ _ k_q_7
  have k_q_13 := hEx _ _ k_q_13
  have k_q_19 := hEx _ _ k_q_19
  have k_q_25 := hEx _ _ k_q_25
  have c_a0 := c_a0.app (w1 := [(q_31, .inl (k_32, 4, .inl (fun _ => 0)))])
  have hTs := hTs.trans (SubT.app (t' := [(k_32, .int)]))
  have c_q_31 : cAt (w_30 ++ [(q_31, .inl (k_32, 4, .inl (fun _ => 0)))]) q_31 (.inl (k_32, 4, .inl (fun _ => 0))) := cAt_last
  have hw : tW (dC, dI) (y_29 ++ [(k_32, .int)]) κ_33 B A s (w_30 ++ [(q_31, .inl (k_32, 4, .inl (fun _ => 0)))]) H locs := ⟨hK, hP, hD, hS, hTy⟩
  clear hf hP hD hS hEx hno hTy hK
  generalize (w_30 ++ [(q_31, .inl (k_32, 4, .inl (fun _ => 0)))]) = w_34 at hw hG c_q_31 c_a0
  generalize (y_29 ++ [(k_32, .int)]) = y_35 at hw hTs 
  clear c_q_31
  refine t_putUF (ci := 0) (v := .ref q_31) (C := RX0) (T := TX0) (N := 16) hx hb hts iX0 tyX0 tyX0_ok nmX0 hown hw c_a0 n_a0 rfl 11 (by decide) (hts _ tw_108) (fun _ h9 => h9) rfl hin rfl (tyX0_ok 11 (by decide)) rfl rfl (Nat.le_of_ble_eq_true rfl) dX0_init_47 (fun w_36 H locs hw hk c_a0 => ?_)
  have c_a0 : cAt w_36 a0 (.inr (0, [.int 0, .int 0, .int 0, .int 0, .int 0, .int 0, .ref q_1, .ref q_7, .ref q_13, .ref q_19, .ref q_25, .ref q_31, .null, .null, .null, .null])) := c_a0
  have hG := hG.set hk (Or.inl rfl)
  refine lv_aload_n hx hb dX0_init_50 rfl (lv_at hl 0 rfl) ?_
  refine lv_bipush (v := 6) hx hb dX0_init_51 (by decide) ?_
  refine va_newa (D := (dC, dI)) (a0 := (6, .inl (fun _ => 0))) (N' := 6) (ty := .int) (atype := .int) hx hb (hts _ tw_154) rfl hw.1 hw.2.1 hw.2.2.1 hw.2.2.2.1 hA (fun _ => rfl) (by decide) (by decide) (Nat.le_of_ble_eq_true rfl) (Nat.le_of_ble_eq_true rfl) (Nat.le_of_ble_eq_true rfl) dX0_init_53 (fun q_37 k_38 H hK hP hD hS => ?_)
  have hf := fr_new hD
  have ne_a0_q_37 : a0 ≠ q_37 := fun z => hf _ (z ▸ c_a0)
  obtain ⟨κ_39, hTy, hEx, k_q_37, hno⟩ := newA (k := 26) hw.2.2.2.2 hD (SubT.app (t' := [(k_38, .int)])) (fun _ => Or.inr (Or.inl ⟨rfl, k_38, y_35.length, _, at_last, rfl, fun j hj => ⟨(by decide : (-2147483648 : Int) ≤ (0 : Int32).toInt), (by decide : (0 : Int32).toInt ≤ (2147483647 : Int))⟩⟩))
  have hG := hG.newA (w1 := [(q_37, .inl (k_38, 6, .inl (fun _ => 0)))]) hEx hno
  have n_a0 : κ_39 a0 = none := by rw [hno _ _ c_a0]; exact n_a0
  have k_q_1 := hEx _ _ k_q_1
  have k_q_7 := hEx _ _ k_q_7
  have k_q_13 := hEx _ _ k_q_13
  have k_q_19 := hEx _ _ k_q_19
  have k_q_25 := hEx _ _ k_q_25
  have k_q_31 := hEx _ _ k_q_31
  have c_a0 := c_a0.app (w1 := [(q_37, .inl (k_38, 6, .inl (fun _ => 0)))])
  have hTs := hTs.trans (SubT.app (t' := [(k_38, .int)]))
  have c_q_37 : cAt (w_36 ++ [(q_37, .inl (k_38, 6, .inl (fun _ => 0)))]) q_37 (.inl (k_38, 6, .inl (fun _ => 0))) := cAt_last
  have hw : tW (dC, dI) (y_35 ++ [(k_38, .int)]) κ_39 B A s (w_36 ++ [(q_37, .inl (k_38, 6, .inl (fun _ => 0)))]) H locs := ⟨hK, hP, hD, hS, hTy⟩
  clear hf hP hD hS hEx hno hTy hK
  generalize (w_36 ++ [(q_37, .inl (k_38, 6, .inl (fun _ => 0)))]) = w_40 at hw hG c_q_37 c_a0
  generalize (y_35 ++ [(k_38, .int)]) = y_41 at hw hTs 
  clear c_q_37
  refine t_putUF (ci := 0) (v := .ref q_37) (C := RX0) (T := TX0) (N := 16) hx hb hts iX0 tyX0 tyX0_ok nmX0 hown hw c_a0 n_a0 rfl 12 (by decide) (hts _ tw_111) (fun _ h9 => h9) rfl hin rfl (tyX0_ok 12 (by decide)) rfl rfl (Nat.le_of_ble_eq_true rfl) dX0_init_55 (fun w_42 H locs hw hk c_a0 => ?_)
  have c_a0 : cAt w_42 a0 (.inr (0, [.int 0, .int 0, .int 0, .int 0, .int 0, .int 0, .ref q_1, .ref q_7, .ref q_13, .ref q_19, .ref q_25, .ref q_31, .ref q_37, .null, .null, .null])) := c_a0
  have hG := hG.set hk (Or.inl rfl)
  refine lv_aload_n hx hb dX0_init_58 rfl (lv_at hl 0 rfl) ?_
  refine lv_bipush (v := 6) hx hb dX0_init_59 (by decide) ?_
  refine va_newa (D := (dC, dI)) (a0 := (6, .inl (fun _ => 0))) (N' := 6) (ty := .int) (atype := .int) hx hb (hts _ tw_154) rfl hw.1 hw.2.1 hw.2.2.1 hw.2.2.2.1 hA (fun _ => rfl) (by decide) (by decide) (Nat.le_of_ble_eq_true rfl) (Nat.le_of_ble_eq_true rfl) (Nat.le_of_ble_eq_true rfl) dX0_init_61 (fun q_43 k_44 H hK hP hD hS => ?_)
  have hf := fr_new hD
  have ne_a0_q_43 : a0 ≠ q_43 := fun z => hf _ (z ▸ c_a0)
  obtain ⟨κ_45, hTy, hEx, k_q_43, hno⟩ := newA (k := 27) hw.2.2.2.2 hD (SubT.app (t' := [(k_44, .int)])) (fun _ => Or.inr (Or.inl ⟨rfl, k_44, y_41.length, _, at_last, rfl, fun j hj => ⟨(by decide : (-2147483648 : Int) ≤ (0 : Int32).toInt), (by decide : (0 : Int32).toInt ≤ (2147483647 : Int))⟩⟩))
  have hG := hG.newA (w1 := [(q_43, .inl (k_44, 6, .inl (fun _ => 0)))]) hEx hno
  have n_a0 : κ_45 a0 = none := by rw [hno _ _ c_a0]; exact n_a0
  have k_q_1 := hEx _ _ k_q_1
  have k_q_7 := hEx _ _ k_q_7
  have k_q_13 := hEx _ _ k_q_13
  have k_q_19 := hEx _ _ k_q_19
  have k_q_25 := hEx _ _ k_q_25
  have k_q_31 := hEx _ _ k_q_31
  have k_q_37 := hEx _ _ k_q_37
  have c_a0 := c_a0.app (w1 := [(q_43, .inl (k_44, 6, .inl (fun _ => 0)))])
  have hTs := hTs.trans (SubT.app (t' := [(k_44, .int)]))
  have c_q_43 : cAt (w_42 ++ [(q_43, .inl (k_44, 6, .inl (fun _ => 0)))]) q_43 (.inl (k_44, 6, .inl (fun _ => 0))) := cAt_last
  have hw : tW (dC, dI) (y_41 ++ [(k_44, .int)]) κ_45 B A s (w_42 ++ [(q_43, .inl (k_44, 6, .inl (fun _ => 0)))]) H locs := ⟨hK, hP, hD, hS, hTy⟩
  clear hf hP hD hS hEx hno hTy hK
  generalize (w_42 ++ [(q_43, .inl (k_44, 6, .inl (fun _ => 0)))]) = w_46 at hw hG c_q_43 c_a0
  generalize (y_41 ++ [(k_44, .int)]) = y_47 at hw hTs 
  clear c_q_43
  refine t_putUF (ci := 0) (v := .ref q_43) (C := RX0) (T := TX0) (N := 16) hx hb hts iX0 tyX0 tyX0_ok nmX0 hown hw c_a0 n_a0 rfl 13 (by decide) (hts _ tw_115) (fun _ h9 => h9) rfl hin rfl (tyX0_ok 13 (by decide)) rfl rfl (Nat.le_of_ble_eq_true rfl) dX0_init_63 (fun w_48 H locs hw hk c_a0 => ?_)
  have c_a0 : cAt w_48 a0 (.inr (0, [.int 0, .int 0, .int 0, .int 0, .int 0, .int 0, .ref q_1, .ref q_7, .ref q_13, .ref q_19, .ref q_25, .ref q_31, .ref q_37, .ref q_43, .null, .null])) := c_a0
  have hG := hG.set hk (Or.inl rfl)
  refine lv_aload_n hx hb dX0_init_66 rfl (lv_at hl 0 rfl) ?_
  refine lv_bipush (v := 49) hx hb dX0_init_67 (by decide) ?_
  refine va_newa (D := (dC, dI)) (a0 := (49, .inl (fun _ => 0))) (N' := 49) (ty := .int) (atype := .int) hx hb (hts _ tw_154) rfl hw.1 hw.2.1 hw.2.2.1 hw.2.2.2.1 hA (fun _ => rfl) (by decide) (by decide) (Nat.le_of_ble_eq_true rfl) (Nat.le_of_ble_eq_true rfl) (Nat.le_of_ble_eq_true rfl) dX0_init_69 (fun q_49 k_50 H hK hP hD hS => ?_)
  have hf := fr_new hD
  have ne_a0_q_49 : a0 ≠ q_49 := fun z => hf _ (z ▸ c_a0)
  obtain ⟨κ_51, hTy, hEx, k_q_49, hno⟩ := newA (k := 28) hw.2.2.2.2 hD (SubT.app (t' := [(k_50, .int)])) (fun _ => Or.inr (Or.inl ⟨rfl, k_50, y_47.length, _, at_last, rfl, fun j hj => ⟨(by decide : (-2147483648 : Int) ≤ (0 : Int32).toInt), (by decide : (0 : Int32).toInt ≤ (2147483647 : Int))⟩⟩))
  have hG := hG.newA (w1 := [(q_49, .inl (k_50, 49, .inl (fun _ => 0)))]) hEx hno
  have n_a0 : κ_51 a0 = none := by rw [hno _ _ c_a0]; exact n_a0
  have k_q_1 := hEx _ _ k_q_1
  have k_q_7 := hEx _ _ k_q_7
  have k_q_13 := hEx _ _ k_q_13
  have k_q_19 := hEx _ _ k_q_19
  have k_q_25 := hEx _ _ k_q_25
  have k_q_31 := hEx _ _ k_q_31
  have k_q_37 := hEx _ _ k_q_37
  have k_q_43 := hEx _ _ k_q_43
  have c_a0 := c_a0.app (w1 := [(q_49, .inl (k_50, 49, .inl (fun _ => 0)))])
  have hTs := hTs.trans (SubT.app (t' := [(k_50, .int)]))
  have c_q_49 : cAt (w_48 ++ [(q_49, .inl (k_50, 49, .inl (fun _ => 0)))]) q_49 (.inl (k_50, 49, .inl (fun _ => 0))) := cAt_last
  have hw : tW (dC, dI) (y_47 ++ [(k_50, .int)]) κ_51 B A s (w_48 ++ [(q_49, .inl (k_50, 49, .inl (fun _ => 0)))]) H locs := ⟨hK, hP, hD, hS, hTy⟩
  clear hf hP hD hS hEx hno hTy hK
  generalize (w_48 ++ [(q_49, .inl (k_50, 49, .inl (fun _ => 0)))]) = w_52 at hw hG c_q_49 c_a0
  generalize (y_47 ++ [(k_50, .int)]) = y_53 at hw hTs 
  clear c_q_49
  refine t_putUF (ci := 0) (v := .ref q_49) (C := RX0) (T := TX0) (N := 16) hx hb hts iX0 tyX0 tyX0_ok nmX0 hown hw c_a0 n_a0 rfl 14 (by decide) (hts _ tw_119) (fun _ h9 => h9) rfl hin rfl (tyX0_ok 14 (by decide)) rfl rfl (Nat.le_of_ble_eq_true rfl) dX0_init_71 (fun w_54 H locs hw hk c_a0 => ?_)
  have c_a0 : cAt w_54 a0 (.inr (0, [.int 0, .int 0, .int 0, .int 0, .int 0, .int 0, .ref q_1, .ref q_7, .ref q_13, .ref q_19, .ref q_25, .ref q_31, .ref q_37, .ref q_43, .ref q_49, .null])) := c_a0
  have hG := hG.set hk (Or.inl rfl)
  refine lv_aload_n hx hb dX0_init_74 rfl (lv_at hl 0 rfl) ?_
  refine lv_bipush (v := 61) hx hb dX0_init_75 (by decide) ?_
  refine va_newa (D := (dC, dI)) (a0 := (61, .inl (fun _ => 0))) (N' := 61) (ty := .boolean) (atype := .boolean) hx hb (hts _ tw_155) rfl hw.1 hw.2.1 hw.2.2.1 hw.2.2.2.1 hA (fun _ => rfl) (by decide) (by decide) (Nat.le_of_ble_eq_true rfl) (Nat.le_of_ble_eq_true rfl) (Nat.le_of_ble_eq_true rfl) dX0_init_77 (fun q_55 k_56 H hK hP hD hS => ?_)
  have hf := fr_new hD
  have ne_a0_q_55 : a0 ≠ q_55 := fun z => hf _ (z ▸ c_a0)
  obtain ⟨κ_57, hTy, hEx, k_q_55, hno⟩ := newA (k := 29) hw.2.2.2.2 hD (SubT.app (t' := [(k_56, .boolean)])) (fun _ => Or.inr (Or.inl ⟨rfl, k_56, y_53.length, _, at_last, rfl, fun j hj => ⟨(by decide : (-2147483648 : Int) ≤ (0 : Int32).toInt), (by decide : (0 : Int32).toInt ≤ (2147483647 : Int))⟩⟩))
  have hG := hG.newA (w1 := [(q_55, .inl (k_56, 61, .inl (fun _ => 0)))]) hEx hno
  have n_a0 : κ_57 a0 = none := by rw [hno _ _ c_a0]; exact n_a0
  have k_q_1 := hEx _ _ k_q_1
  have k_q_7 := hEx _ _ k_q_7
  have k_q_13 := hEx _ _ k_q_13
  have k_q_19 := hEx _ _ k_q_19
  have k_q_25 := hEx _ _ k_q_25
  have k_q_31 := hEx _ _ k_q_31
  have k_q_37 := hEx _ _ k_q_37
  have k_q_43 := hEx _ _ k_q_43
  have k_q_49 := hEx _ _ k_q_49
  have c_a0 := c_a0.app (w1 := [(q_55, .inl (k_56, 61, .inl (fun _ => 0)))])
  have hTs := hTs.trans (SubT.app (t' := [(k_56, .boolean)]))
  have c_q_55 : cAt (w_54 ++ [(q_55, .inl (k_56, 61, .inl (fun _ => 0)))]) q_55 (.inl (k_56, 61, .inl (fun _ => 0))) := cAt_last
  have hw : tW (dC, dI) (y_53 ++ [(k_56, .boolean)]) κ_57 B A s (w_54 ++ [(q_55, .inl (k_56, 61, .inl (fun _ => 0)))]) H locs := ⟨hK, hP, hD, hS, hTy⟩
  clear hf hP hD hS hEx hno hTy hK
  generalize (w_54 ++ [(q_55, .inl (k_56, 61, .inl (fun _ => 0)))]) = w_58 at hw hG c_q_55 c_a0
  generalize (y_53 ++ [(k_56, .boolean)]) = y_59 at hw hTs 
  clear c_q_55
  refine t_putUF (ci := 0) (v := .ref q_55) (C := RX0) (T := TX0) (N := 16) hx hb hts iX0 tyX0 tyX0_ok nmX0 hown hw c_a0 n_a0 rfl 15 (by decide) (hts _ tw_120) (fun _ h9 => h9) rfl hin rfl (tyX0_ok 15 (by decide)) rfl rfl (Nat.le_of_ble_eq_true rfl) dX0_init_79 (fun w_60 H locs hw hk c_a0 => ?_)
  have c_a0 : cAt w_60 a0 (.inr (0, [.int 0, .int 0, .int 0, .int 0, .int 0, .int 0, .ref q_1, .ref q_7, .ref q_13, .ref q_19, .ref q_25, .ref q_31, .ref q_37, .ref q_43, .ref q_49, .ref q_55])) := c_a0
  have hG := hG.set hk (Or.inl rfl)
  have hok : okE (kap κ_57 [(a0, 0)]) y_59 B 0 (.inr (0, [.int 0, .int 0, .int 0, .int 0, .int 0, .int 0, .ref q_1, .ref q_7, .ref q_13, .ref q_19, .ref q_25, .ref q_31, .ref q_37, .ref q_43, .ref q_49, .ref q_55])) := by
    refine Or.inl ⟨rfl, _, rfl, rfl, fun j y hy => ?_⟩
    match j, hy with
    | 0, hy => cases hy; exact okV.int rfl (by decide) (by decide)
    | 1, hy => cases hy; exact okV.int rfl (by decide) (by decide)
    | 2, hy => cases hy; exact okV.int rfl (by decide) (by decide)
    | 3, hy => cases hy; exact okV.int rfl (by decide) (by decide)
    | 4, hy => cases hy; exact okV.int rfl (by decide) (by decide)
    | 5, hy => cases hy; exact okV.int rfl (by decide) (by decide)
    | 6, hy => cases hy; exact okV.ref (k := 20) rfl (typeE n_a0 _ _ k_q_1)
    | 7, hy => cases hy; exact okV.ref (k := 21) rfl (typeE n_a0 _ _ k_q_7)
    | 8, hy => cases hy; exact okV.ref (k := 22) rfl (typeE n_a0 _ _ k_q_13)
    | 9, hy => cases hy; exact okV.ref (k := 23) rfl (typeE n_a0 _ _ k_q_19)
    | 10, hy => cases hy; exact okV.ref (k := 24) rfl (typeE n_a0 _ _ k_q_25)
    | 11, hy => cases hy; exact okV.ref (k := 25) rfl (typeE n_a0 _ _ k_q_31)
    | 12, hy => cases hy; exact okV.ref (k := 26) rfl (typeE n_a0 _ _ k_q_37)
    | 13, hy => cases hy; exact okV.ref (k := 27) rfl (typeE n_a0 _ _ k_q_43)
    | 14, hy => cases hy; exact okV.ref (k := 28) rfl (typeE n_a0 _ _ k_q_49)
    | 15, hy => cases hy; exact okV.ref (k := 29) rfl (typeE n_a0 _ _ k_q_55)
    | j + 16, hy => simp at hy
  have hTy := typeO (k := 0) hw.2.2.2.2 n_a0 c_a0 hok
  clear hok
  have hw : tW (dC, dI) y_59 (kap κ_57 [(a0, 0)]) B A s w_60 H locs := ⟨hw.1, hw.2.1, hw.2.2.1, hw.2.2.2.1, hTy⟩
  clear hTy
  have hG := hG.typ (k := 0) n_a0
  have k_q_1 := typeE (a := a0) (k := 0) n_a0 _ _ k_q_1
  have k_q_7 := typeE (a := a0) (k := 0) n_a0 _ _ k_q_7
  have k_q_13 := typeE (a := a0) (k := 0) n_a0 _ _ k_q_13
  have k_q_19 := typeE (a := a0) (k := 0) n_a0 _ _ k_q_19
  have k_q_25 := typeE (a := a0) (k := 0) n_a0 _ _ k_q_25
  have k_q_31 := typeE (a := a0) (k := 0) n_a0 _ _ k_q_31
  have k_q_37 := typeE (a := a0) (k := 0) n_a0 _ _ k_q_37
  have k_q_43 := typeE (a := a0) (k := 0) n_a0 _ _ k_q_43
  have k_q_49 := typeE (a := a0) (k := 0) n_a0 _ _ k_q_49
  have k_q_55 := typeE (a := a0) (k := 0) n_a0 _ _ k_q_55
  have k_a0 : (kap κ_57 [(a0, 0)]) a0 = some 0 := typeK
  clear n_a0
  generalize (kap κ_57 [(a0, 0)]) = κ_61 at hw hG k_q_1 k_q_7 k_q_13 k_q_19 k_q_25 k_q_31 k_q_37 k_q_43 k_q_49 k_q_55 k_a0
  refine W.widen (k := 10) (n := 184) (Nat.le_of_ble_eq_true rfl) (Nat.le_of_ble_eq_true rfl) ?_
  exact W.vret hx hb hr (fun t ht hW => ⟨⟨(w_60, κ_61, y_59), rfl, ⟨hw.2.2.2.2, hTs, hG, k_a0⟩, by rw [ht]; exact hw.2.1, va_K.moved hW.alike hw.1, hw.2.2.1⟩, hw.2.2.2.1.F ht⟩) hw.2.2.2.1.2.2 dX0_init_82
set_option maxHeartbeats 4000000 in
set_option maxRecDepth 100000 in
theorem k_X1_init (l : Launch) (dC : Nat → ClassId) (dI : Nat → Nat → Nat) (tys : List (ClassId × FieldType)) (κ : tK) (B : Nat) (ws : va_W) (hT : Ty κ tys B ws) (a0 : Nat) (n_a0 : κ a0 = none) (c_a0 : cAt ws a0 (.inr (1, [.null]))) (sz : Nat) : Met l yX1_init (ws_u yX1_init cX1_init 1 none) ({ frames := 2, cells := 11, slots := 200, locals := 48 }) (va_Pc [.ref a0] (cPre (dC, dI) tys ws sz)) (va_Qv (fun (u : va_W × tK × List (ClassId × FieldType)) => Ty u.2.1 u.2.2 B u.1 ∧ SubT tys u.2.2 ∧ Gr κ u.2.1 ws u.1 a0 ∧ u.2.1 a0 = some 1) (fun u t => cPost (dC, dI) u.2.2 u.1 (va_A ws sz) t) (va_A ws sz)) 11 200 (va_A ws sz) := by
  refine Met.ofW (cc := cX1_init) (maxL := 1) (ret := none) (by decide) rfl ?_
  intro p e s m args below meth c s₁ B0 hml hv
  obtain ⟨rfl, hsz, hP, hK, hD0, hE⟩ := hv
  have hx := B0.exec
  have hb := B0.bytes
  have hr := B0.returns
  have hts0 := atoms_spec (ws := ws_u yX1_init cX1_init 1 none) B0.pre
  have hts : ∀ w ∈ gT, w.before _ s = true := fun w h => hts0 w (List.mem_cons_of_mem _ h)
  have hown : s.vm.findClass RX1 = some m.cls := findClass_of_methodNamed B0.named
  have hin : meth.name = "<init>" := (name_of_methodNamed B0.named B0.method).1
  subst hsz
  have hD := hD0.self (sz := s.heap.size)
  generalize hAe : va_A ws s.heap.size = A at hD ⊢
  have hA : ∀ q : Nat, s.heap.size ≤ q → A q := fun q h => by rw [← hAe]; exact Or.inr h
  have hw : tW (dC, dI) tys κ B A s ws s.heap [] := ⟨hK, hP, hD, va_S.rf, hT⟩
  have hG : Gr κ κ ws ws a0 := Gr.rf
  have hTs : SubT tys tys := SubT.rf
  clear hP hK hD hD0 hts0
  have hl := lv_entry ([.ref a0]) (n := 1) (Nat.le_of_ble_eq_true rfl)
  rw [lg_entry_eq]
  generalize (lg_sl ([.ref a0]) ++ List.replicate (1 - (lg_sl ([.ref a0])).length) Slot.unset).toArray = ls at hl ⊢
  have hl : lv_has ls 1 [(0, .ref a0)] := hl
  refine lv_aload_n hx hb dX1_init_0 rfl (lv_at hl 0 rfl) ?_
  refine W.objInit hx hb hown (hts _ tw_61) (hts _ tw_28) (hts _ tw_29) rfl (by rw [hml]; exact hl.1) rfl dX1_init_1 (Nat.le_of_ble_eq_true rfl) (Nat.le_of_ble_eq_true rfl) ?_
  refine W.eq (g2 := F0 m 4 ls []) rfl ?_
  refine lv_aload_n hx hb dX1_init_4 rfl (lv_at hl 0 rfl) ?_
  refine va_new (ci := 0) (fs := [.int 0, .int 0, .int 0, .int 0, .int 0, .int 0, .null, .null, .null, .null, .null, .null, .null, .null, .null, .null]) (C := RX0) (T := TX0) (N := 16) hx hb hts iX0 tyX0 tyX0_ok hown (hts _ tw_62) (hts _ tw_63) (hts _ tw_4) hw.1 hw.2.1 hw.2.2.1 hw.2.2.2.1 hA rfl dfX0 (Nat.le_of_ble_eq_true rfl) (Nat.le_of_ble_eq_true rfl) dX1_init_5 (fun q_1 H hP hD hS => ?_)
  have hf := fr_new hD
  have ne_a0_q_1 : a0 ≠ q_1 := fun z => hf _ (z ▸ c_a0)
  have n_q_1 := hw.2.2.2.2.nn0 hf
  have z_q_1 := hG.fresh c_a0 hf
  have hG := hG.app (w1 := [(q_1, .inr (0, [.int 0, .int 0, .int 0, .int 0, .int 0, .int 0, .null, .null, .null, .null, .null, .null, .null, .null, .null, .null]))])
  have c_a0 := c_a0.app (w1 := [(q_1, .inr (0, [.int 0, .int 0, .int 0, .int 0, .int 0, .int 0, .null, .null, .null, .null, .null, .null, .null, .null, .null, .null]))])
  have c_q_1 : cAt (ws ++ [(q_1, .inr (0, [.int 0, .int 0, .int 0, .int 0, .int 0, .int 0, .null, .null, .null, .null, .null, .null, .null, .null, .null, .null]))]) q_1 (.inr (0, [.int 0, .int 0, .int 0, .int 0, .int 0, .int 0, .null, .null, .null, .null, .null, .null, .null, .null, .null, .null])) := cAt_last
  have hw : tW (dC, dI) tys κ B A s (ws ++ [(q_1, .inr (0, [.int 0, .int 0, .int 0, .int 0, .int 0, .int 0, .null, .null, .null, .null, .null, .null, .null, .null, .null, .null]))]) H [] := ⟨hw.1, hP, hD, hS, hw.2.2.2.2.appT SubT.rf⟩
  clear hf hP hD hS
  generalize (ws ++ [(q_1, .inr (0, [.int 0, .int 0, .int 0, .int 0, .int 0, .int 0, .null, .null, .null, .null, .null, .null, .null, .null, .null, .null]))]) = w_2 at hw hG c_q_1 c_a0
  refine lv_dup hx hb dX1_init_8 rfl ?_
  refine t_callK (va_runI (As := []) (rest := [.ref q_1, .ref a0]) ⟨hx, hb, hml, hown, hts⟩ (k_X0_init l dC dI tys κ B w_2 hw.2.2.2.2 q_1 n_q_1 c_q_1  H.size) (cwI 0 hts (gU tw_66) rfl rfl rfl (hts _ tw_4) (hts _ tw_64) (hts _ tw_65) rfl (by decide +kernel) ⟨(Nat.le_of_ble_eq_true rfl), (Nat.le_of_ble_eq_true rfl)⟩) ⟨cPre.blind, cPre.use hw.2.1 hw.1 hw.2.2.1 hE⟩ rfl rfl hl.1 rfl (lv_room (Nat.le_of_ble_eq_true rfl)) dX1_init_9 ⟨(Nat.le_of_ble_eq_true rfl), (Nat.le_of_ble_eq_true rfl)⟩) hw hA (fun _ h => h.1) (fun u H locs hp hw => ?_)
  obtain ⟨w_3, κ_4, y_5⟩ := u
  obtain ⟨_, hTs1, hGc, kn_q_1⟩ := hp
  dsimp only at hTs1 hGc kn_q_1 hw
  have hG := hG.call hGc z_q_1
  have hTs := hTs.trans hTs1
  have n_a0 := (hGc.2 _ _ ne_a0_q_1 c_a0).2 n_a0
  have c_a0 := (hGc.2 _ _ ne_a0_q_1 c_a0).1
  have k_q_1 := kn_q_1
  clear kn_q_1 c_q_1 n_q_1
  refine t_putU (ci := 1) (v := .ref q_1) (C := RX1) (T := TX1) (N := 1) hx hb hts iX1 tyX1 tyX1_ok nmX1 hown hw c_a0 n_a0 rfl 0 (by decide) (hts _ tw_156) (fun _ h9 => h9) rfl (tyX1_ok 0 (by decide)) rfl rfl (Nat.le_of_ble_eq_true rfl) dX1_init_12 (fun w_6 H locs hw hk c_a0 => ?_)
  have c_a0 : cAt w_6 a0 (.inr (1, [.ref q_1])) := c_a0
  have hG := hG.set hk (Or.inl rfl)
  have hok : okE (kap κ_4 [(a0, 1)]) y_5 B 1 (.inr (1, [.ref q_1])) := by
    refine Or.inl ⟨rfl, _, rfl, rfl, fun j y hy => ?_⟩
    match j, hy with
    | 0, hy => cases hy; exact okV.ref (k := 0) rfl (typeE n_a0 _ _ k_q_1)
    | j + 1, hy => simp at hy
  have hTy := typeO (k := 1) hw.2.2.2.2 n_a0 c_a0 hok
  clear hok
  have hw : tW (dC, dI) y_5 (kap κ_4 [(a0, 1)]) B A s w_6 H locs := ⟨hw.1, hw.2.1, hw.2.2.1, hw.2.2.2.1, hTy⟩
  clear hTy
  have hG := hG.typ (k := 1) n_a0
  have k_q_1 := typeE (a := a0) (k := 1) n_a0 _ _ k_q_1
  have k_a0 : (kap κ_4 [(a0, 1)]) a0 = some 1 := typeK
  clear n_a0
  generalize (kap κ_4 [(a0, 1)]) = κ_7 at hw hG k_q_1 k_a0
  refine W.widen (k := 11) (n := 200) (Nat.le_of_ble_eq_true rfl) (Nat.le_of_ble_eq_true rfl) ?_
  exact W.vret hx hb hr (fun t ht hW => ⟨⟨(w_6, κ_7, y_5), rfl, ⟨hw.2.2.2.2, hTs, hG, k_a0⟩, by rw [ht]; exact hw.2.1, va_K.moved hW.alike hw.1, hw.2.2.1⟩, hw.2.2.2.1.F ht⟩) hw.2.2.2.1.2.2 dX1_init_15
set_option maxHeartbeats 4000000 in
set_option maxRecDepth 100000 in
theorem k_X7_init (l : Launch) (dC : Nat → ClassId) (dI : Nat → Nat → Nat) (tys : List (ClassId × FieldType)) (κ : tK) (B : Nat) (ws : va_W) (hT : Ty κ tys B ws) (a0 : Nat) (n_a0 : κ a0 = none) (c_a0 : cAt ws a0 (.inr (7, [.null, .null, .int 0]))) (sz : Nat) : Met l yX7_init (ws_u yX7_init cX7_init 1 none) ({ frames := 1, cells := 0, slots := 0, locals := 28 }) (va_Pc [.ref a0] (cPre (dC, dI) tys ws sz)) (va_Qv (fun (u : va_W × tK × List (ClassId × FieldType)) => Ty u.2.1 u.2.2 B u.1 ∧ SubT tys u.2.2 ∧ Gr κ u.2.1 ws u.1 a0 ∧ u.2.1 a0 = some 7) (fun u t => cPost (dC, dI) u.2.2 u.1 (va_A ws sz) t) (va_A ws sz)) 0 0 (va_A ws sz) := by
  refine Met.ofW (cc := cX7_init) (maxL := 1) (ret := none) (by decide) rfl ?_
  intro p e s m args below meth c s₁ B0 hml hv
  obtain ⟨rfl, hsz, hP, hK, hD0, hE⟩ := hv
  have hx := B0.exec
  have hb := B0.bytes
  have hr := B0.returns
  have hts0 := atoms_spec (ws := ws_u yX7_init cX7_init 1 none) B0.pre
  have hts : ∀ w ∈ gT, w.before _ s = true := fun w h => hts0 w (List.mem_cons_of_mem _ h)
  have hown : s.vm.findClass RX7 = some m.cls := findClass_of_methodNamed B0.named
  have hin : meth.name = "<init>" := (name_of_methodNamed B0.named B0.method).1
  subst hsz
  have hD := hD0.self (sz := s.heap.size)
  generalize hAe : va_A ws s.heap.size = A at hD ⊢
  have hA : ∀ q : Nat, s.heap.size ≤ q → A q := fun q h => by rw [← hAe]; exact Or.inr h
  have hw : tW (dC, dI) tys κ B A s ws s.heap [] := ⟨hK, hP, hD, va_S.rf, hT⟩
  have hG : Gr κ κ ws ws a0 := Gr.rf
  have hTs : SubT tys tys := SubT.rf
  clear hP hK hD hD0 hts0
  have hl := lv_entry ([.ref a0]) (n := 1) (Nat.le_of_ble_eq_true rfl)
  rw [lg_entry_eq]
  generalize (lg_sl ([.ref a0]) ++ List.replicate (1 - (lg_sl ([.ref a0])).length) Slot.unset).toArray = ls at hl ⊢
  have hl : lv_has ls 1 [(0, .ref a0)] := hl
  refine lv_aload_n hx hb dX7_init_0 rfl (lv_at hl 0 rfl) ?_
  refine W.objInit hx hb hown (hts _ tw_165) (hts _ tw_28) (hts _ tw_29) rfl (by rw [hml]; exact hl.1) rfl dX7_init_1 (Nat.le_of_ble_eq_true rfl) (Nat.le_of_ble_eq_true rfl) ?_
  refine W.eq (g2 := F0 m 4 ls []) rfl ?_
  have hok : okE (kap κ [(a0, 7)]) tys B 7 (.inr (7, [.null, .null, .int 0])) := by
    refine Or.inl ⟨rfl, _, rfl, rfl, fun j y hy => ?_⟩
    match j, hy with
    | 0, hy => cases hy; exact okV.null rfl
    | 1, hy => cases hy; exact okV.null rfl
    | 2, hy => cases hy; exact okV.int rfl (by decide) (by decide)
    | j + 3, hy => simp at hy
  have hTy := typeO (k := 7) hw.2.2.2.2 n_a0 c_a0 hok
  clear hok
  have hw : tW (dC, dI) tys (kap κ [(a0, 7)]) B A s ws s.heap [] := ⟨hw.1, hw.2.1, hw.2.2.1, hw.2.2.2.1, hTy⟩
  clear hTy
  have hG := hG.typ (k := 7) n_a0
  have k_a0 : (kap κ [(a0, 7)]) a0 = some 7 := typeK
  clear n_a0
  generalize (kap κ [(a0, 7)]) = κ_1 at hw hG k_a0
  refine W.widen (k := 0) (n := 0) (Nat.le_of_ble_eq_true rfl) (Nat.le_of_ble_eq_true rfl) ?_
  exact W.vret hx hb hr (fun t ht hW => ⟨⟨(ws, κ_1, tys), rfl, ⟨hw.2.2.2.2, hTs, hG, k_a0⟩, by rw [ht]; exact hw.2.1, va_K.moved hW.alike hw.1, hw.2.2.1⟩, hw.2.2.2.1.F ht⟩) hw.2.2.2.1.2.2 dX7_init_4
set_option maxHeartbeats 4000000 in
set_option maxRecDepth 100000 in
theorem k_X6_init (l : Launch) (dC : Nat → ClassId) (dI : Nat → Nat → Nat) (tys : List (ClassId × FieldType)) (κ : tK) (B : Nat) (ws : va_W) (hT : Ty κ tys B ws) (a0 : Nat) (n_a0 : κ a0 = none) (c_a0 : cAt ws a0 (.inr (6, [.null, .int 0, .null, .null, .null, .int 0, .null]))) (sz : Nat) : Met l yX6_init (ws_u yX6_init cX6_init 1 none) ({ frames := 1, cells := 5, slots := 468, locals := 28 }) (va_Pc [.ref a0] (cPre (dC, dI) tys ws sz)) (va_Qv (fun (u : va_W × tK × List (ClassId × FieldType)) => Ty u.2.1 u.2.2 B u.1 ∧ SubT tys u.2.2 ∧ Gr κ u.2.1 ws u.1 a0 ∧ u.2.1 a0 = some 6) (fun u t => cPost (dC, dI) u.2.2 u.1 (va_A ws sz) t) (va_A ws sz)) 5 468 (va_A ws sz) := by
  refine Met.ofW (cc := cX6_init) (maxL := 1) (ret := none) (by decide) rfl ?_
  intro p e s m args below meth c s₁ B0 hml hv
  obtain ⟨rfl, hsz, hP, hK, hD0, hE⟩ := hv
  have hx := B0.exec
  have hb := B0.bytes
  have hr := B0.returns
  have hts0 := atoms_spec (ws := ws_u yX6_init cX6_init 1 none) B0.pre
  have hts : ∀ w ∈ gT, w.before _ s = true := fun w h => hts0 w (List.mem_cons_of_mem _ h)
  have hown : s.vm.findClass RX6 = some m.cls := findClass_of_methodNamed B0.named
  have hin : meth.name = "<init>" := (name_of_methodNamed B0.named B0.method).1
  subst hsz
  have hD := hD0.self (sz := s.heap.size)
  generalize hAe : va_A ws s.heap.size = A at hD ⊢
  have hA : ∀ q : Nat, s.heap.size ≤ q → A q := fun q h => by rw [← hAe]; exact Or.inr h
  have hw : tW (dC, dI) tys κ B A s ws s.heap [] := ⟨hK, hP, hD, va_S.rf, hT⟩
  have hG : Gr κ κ ws ws a0 := Gr.rf
  have hTs : SubT tys tys := SubT.rf
  clear hP hK hD hD0 hts0
  have hl := lv_entry ([.ref a0]) (n := 1) (Nat.le_of_ble_eq_true rfl)
  rw [lg_entry_eq]
  generalize (lg_sl ([.ref a0]) ++ List.replicate (1 - (lg_sl ([.ref a0])).length) Slot.unset).toArray = ls at hl ⊢
  have hl : lv_has ls 1 [(0, .ref a0)] := hl
  refine lv_aload_n hx hb dX6_init_0 rfl (lv_at hl 0 rfl) ?_
  refine W.objInit hx hb hown (hts _ tw_182) (hts _ tw_28) (hts _ tw_29) rfl (by rw [hml]; exact hl.1) rfl dX6_init_1 (Nat.le_of_ble_eq_true rfl) (Nat.le_of_ble_eq_true rfl) ?_
  refine W.eq (g2 := F0 m 4 ls []) rfl ?_
  refine lv_aload_n hx hb dX6_init_4 rfl (lv_at hl 0 rfl) ?_
  refine lv_sipush (v := 400) hx hb dX6_init_5 (by decide) ?_
  refine va_newa (D := (dC, dI)) (a0 := (400, .inl (fun _ => 0))) (N' := 400) (ty := .int) (atype := .int) hx hb (hts _ tw_154) rfl hw.1 hw.2.1 hw.2.2.1 hw.2.2.2.1 hA (fun _ => rfl) (by decide) (by decide) (Nat.le_of_ble_eq_true rfl) (Nat.le_of_ble_eq_true rfl) (Nat.le_of_ble_eq_true rfl) dX6_init_8 (fun q_1 k_2 H hK hP hD hS => ?_)
  have hf := fr_new hD
  have ne_a0_q_1 : a0 ≠ q_1 := fun z => hf _ (z ▸ c_a0)
  obtain ⟨κ_3, hTy, hEx, k_q_1, hno⟩ := newA (k := 38) hw.2.2.2.2 hD (SubT.app (t' := [(k_2, .int)])) (fun _ => Or.inr (Or.inl ⟨rfl, k_2, tys.length, _, at_last, rfl, fun j hj => ⟨(by decide : (-2147483648 : Int) ≤ (0 : Int32).toInt), (by decide : (0 : Int32).toInt ≤ (2147483647 : Int))⟩⟩))
  have hG := hG.newA (w1 := [(q_1, .inl (k_2, 400, .inl (fun _ => 0)))]) hEx hno
  have n_a0 : κ_3 a0 = none := by rw [hno _ _ c_a0]; exact n_a0
  have c_a0 := c_a0.app (w1 := [(q_1, .inl (k_2, 400, .inl (fun _ => 0)))])
  have hTs := hTs.trans (SubT.app (t' := [(k_2, .int)]))
  have c_q_1 : cAt (ws ++ [(q_1, .inl (k_2, 400, .inl (fun _ => 0)))]) q_1 (.inl (k_2, 400, .inl (fun _ => 0))) := cAt_last
  have hw : tW (dC, dI) (tys ++ [(k_2, .int)]) κ_3 B A s (ws ++ [(q_1, .inl (k_2, 400, .inl (fun _ => 0)))]) H [] := ⟨hK, hP, hD, hS, hTy⟩
  clear hf hP hD hS hEx hno hTy hK
  generalize (ws ++ [(q_1, .inl (k_2, 400, .inl (fun _ => 0)))]) = w_4 at hw hG c_q_1 c_a0
  generalize (tys ++ [(k_2, .int)]) = y_5 at hw hTs 
  clear c_q_1
  refine t_putUF (ci := 6) (v := .ref q_1) (C := RX6) (T := TX6) (N := 7) hx hb hts iX6 tyX6 tyX6_ok nmX6 hown hw c_a0 n_a0 rfl 0 (by decide) (hts _ tw_183) (fun _ h9 => h9) rfl hin rfl (tyX6_ok 0 (by decide)) rfl rfl (Nat.le_of_ble_eq_true rfl) dX6_init_10 (fun w_6 H locs hw hk c_a0 => ?_)
  have c_a0 : cAt w_6 a0 (.inr (6, [.ref q_1, .int 0, .null, .null, .null, .int 0, .null])) := c_a0
  have hG := hG.set hk (Or.inl rfl)
  refine lv_aload_n hx hb dX6_init_13 rfl (lv_at hl 0 rfl) ?_
  refine lv_bipush (v := 12) hx hb dX6_init_14 (by decide) ?_
  refine va_newa (D := (dC, dI)) (a0 := (12, .inl (fun _ => 0))) (N' := 12) (ty := .int) (atype := .int) hx hb (hts _ tw_154) rfl hw.1 hw.2.1 hw.2.2.1 hw.2.2.2.1 hA (fun _ => rfl) (by decide) (by decide) (Nat.le_of_ble_eq_true rfl) (Nat.le_of_ble_eq_true rfl) (Nat.le_of_ble_eq_true rfl) dX6_init_16 (fun q_7 k_8 H hK hP hD hS => ?_)
  have hf := fr_new hD
  have ne_a0_q_7 : a0 ≠ q_7 := fun z => hf _ (z ▸ c_a0)
  obtain ⟨κ_9, hTy, hEx, k_q_7, hno⟩ := newA (k := 39) hw.2.2.2.2 hD (SubT.app (t' := [(k_8, .int)])) (fun _ => Or.inr (Or.inl ⟨rfl, k_8, y_5.length, _, at_last, rfl, fun j hj => ⟨(by decide : (0 : Int) ≤ (0 : Int32).toInt), (by decide : (0 : Int32).toInt ≤ (400 : Int))⟩⟩))
  have hG := hG.newA (w1 := [(q_7, .inl (k_8, 12, .inl (fun _ => 0)))]) hEx hno
  have n_a0 : κ_9 a0 = none := by rw [hno _ _ c_a0]; exact n_a0
  have k_q_1 := hEx _ _ k_q_1
  have c_a0 := c_a0.app (w1 := [(q_7, .inl (k_8, 12, .inl (fun _ => 0)))])
  have hTs := hTs.trans (SubT.app (t' := [(k_8, .int)]))
  have c_q_7 : cAt (w_6 ++ [(q_7, .inl (k_8, 12, .inl (fun _ => 0)))]) q_7 (.inl (k_8, 12, .inl (fun _ => 0))) := cAt_last
  have hw : tW (dC, dI) (y_5 ++ [(k_8, .int)]) κ_9 B A s (w_6 ++ [(q_7, .inl (k_8, 12, .inl (fun _ => 0)))]) H locs := ⟨hK, hP, hD, hS, hTy⟩
  clear hf hP hD hS hEx hno hTy hK
  generalize (w_6 ++ [(q_7, .inl (k_8, 12, .inl (fun _ => 0)))]) = w_10 at hw hG c_q_7 c_a0
  generalize (y_5 ++ [(k_8, .int)]) = y_11 at hw hTs 
  clear c_q_7
  refine t_putUF (ci := 6) (v := .ref q_7) (C := RX6) (T := TX6) (N := 7) hx hb hts iX6 tyX6 tyX6_ok nmX6 hown hw c_a0 n_a0 rfl 2 (by decide) (hts _ tw_185) (fun _ h9 => h9) rfl hin rfl (tyX6_ok 2 (by decide)) rfl rfl (Nat.le_of_ble_eq_true rfl) dX6_init_18 (fun w_12 H locs hw hk c_a0 => ?_)
  have c_a0 : cAt w_12 a0 (.inr (6, [.ref q_1, .int 0, .ref q_7, .null, .null, .int 0, .null])) := c_a0
  have hG := hG.set hk (Or.inl rfl)
  refine lv_aload_n hx hb dX6_init_21 rfl (lv_at hl 0 rfl) ?_
  refine lv_bipush (v := 12) hx hb dX6_init_22 (by decide) ?_
  refine va_newa (D := (dC, dI)) (a0 := (12, .inl (fun _ => 0))) (N' := 12) (ty := .int) (atype := .int) hx hb (hts _ tw_154) rfl hw.1 hw.2.1 hw.2.2.1 hw.2.2.2.1 hA (fun _ => rfl) (by decide) (by decide) (Nat.le_of_ble_eq_true rfl) (Nat.le_of_ble_eq_true rfl) (Nat.le_of_ble_eq_true rfl) dX6_init_24 (fun q_13 k_14 H hK hP hD hS => ?_)
  have hf := fr_new hD
  have ne_a0_q_13 : a0 ≠ q_13 := fun z => hf _ (z ▸ c_a0)
  obtain ⟨κ_15, hTy, hEx, k_q_13, hno⟩ := newA (k := 40) hw.2.2.2.2 hD (SubT.app (t' := [(k_14, .int)])) (fun _ => Or.inr (Or.inl ⟨rfl, k_14, y_11.length, _, at_last, rfl, fun j hj => ⟨(by decide : (0 : Int) ≤ (0 : Int32).toInt), (by decide : (0 : Int32).toInt ≤ (400 : Int))⟩⟩))
  have hG := hG.newA (w1 := [(q_13, .inl (k_14, 12, .inl (fun _ => 0)))]) hEx hno
  have n_a0 : κ_15 a0 = none := by rw [hno _ _ c_a0]; exact n_a0
  have k_q_1 := hEx _ _ k_q_1
  have k_q_7 := hEx _ _ k_q_7
  have c_a0 := c_a0.app (w1 := [(q_13, .inl (k_14, 12, .inl (fun _ => 0)))])
  have hTs := hTs.trans (SubT.app (t' := [(k_14, .int)]))
  have c_q_13 : cAt (w_12 ++ [(q_13, .inl (k_14, 12, .inl (fun _ => 0)))]) q_13 (.inl (k_14, 12, .inl (fun _ => 0))) := cAt_last
  have hw : tW (dC, dI) (y_11 ++ [(k_14, .int)]) κ_15 B A s (w_12 ++ [(q_13, .inl (k_14, 12, .inl (fun _ => 0)))]) H locs := ⟨hK, hP, hD, hS, hTy⟩
  clear hf hP hD hS hEx hno hTy hK
  generalize (w_12 ++ [(q_13, .inl (k_14, 12, .inl (fun _ => 0)))]) = w_16 at hw hG c_q_13 c_a0
  generalize (y_11 ++ [(k_14, .int)]) = y_17 at hw hTs 
  clear c_q_13
  refine t_putUF (ci := 6) (v := .ref q_13) (C := RX6) (T := TX6) (N := 7) hx hb hts iX6 tyX6 tyX6_ok nmX6 hown hw c_a0 n_a0 rfl 3 (by decide) (hts _ tw_186) (fun _ h9 => h9) rfl hin rfl (tyX6_ok 3 (by decide)) rfl rfl (Nat.le_of_ble_eq_true rfl) dX6_init_26 (fun w_18 H locs hw hk c_a0 => ?_)
  have c_a0 : cAt w_18 a0 (.inr (6, [.ref q_1, .int 0, .ref q_7, .ref q_13, .null, .int 0, .null])) := c_a0
  have hG := hG.set hk (Or.inl rfl)
  refine lv_aload_n hx hb dX6_init_29 rfl (lv_at hl 0 rfl) ?_
  refine lv_bipush (v := 12) hx hb dX6_init_30 (by decide) ?_
  refine va_newa (D := (dC, dI)) (a0 := (12, .inl (fun _ => 0))) (N' := 12) (ty := .int) (atype := .int) hx hb (hts _ tw_154) rfl hw.1 hw.2.1 hw.2.2.1 hw.2.2.2.1 hA (fun _ => rfl) (by decide) (by decide) (Nat.le_of_ble_eq_true rfl) (Nat.le_of_ble_eq_true rfl) (Nat.le_of_ble_eq_true rfl) dX6_init_32 (fun q_19 k_20 H hK hP hD hS => ?_)
  have hf := fr_new hD
  have ne_a0_q_19 : a0 ≠ q_19 := fun z => hf _ (z ▸ c_a0)
  obtain ⟨κ_21, hTy, hEx, k_q_19, hno⟩ := newA (k := 41) hw.2.2.2.2 hD (SubT.app (t' := [(k_20, .int)])) (fun _ => Or.inr (Or.inl ⟨rfl, k_20, y_17.length, _, at_last, rfl, fun j hj => ⟨(by decide : (0 : Int) ≤ (0 : Int32).toInt), (by decide : (0 : Int32).toInt ≤ (400 : Int))⟩⟩))
  have hG := hG.newA (w1 := [(q_19, .inl (k_20, 12, .inl (fun _ => 0)))]) hEx hno
  have n_a0 : κ_21 a0 = none := by rw [hno _ _ c_a0]; exact n_a0
  have k_q_1 := hEx _ _ k_q_1
  have k_q_7 := hEx _ _ k_q_7
  have k_q_13 := hEx _ _ k_q_13
  have c_a0 := c_a0.app (w1 := [(q_19, .inl (k_20, 12, .inl (fun _ => 0)))])
  have hTs := hTs.trans (SubT.app (t' := [(k_20, .int)]))
  have c_q_19 : cAt (w_18 ++ [(q_19, .inl (k_20, 12, .inl (fun _ => 0)))]) q_19 (.inl (k_20, 12, .inl (fun _ => 0))) := cAt_last
  have hw : tW (dC, dI) (y_17 ++ [(k_20, .int)]) κ_21 B A s (w_18 ++ [(q_19, .inl (k_20, 12, .inl (fun _ => 0)))]) H locs := ⟨hK, hP, hD, hS, hTy⟩
  clear hf hP hD hS hEx hno hTy hK
  generalize (w_18 ++ [(q_19, .inl (k_20, 12, .inl (fun _ => 0)))]) = w_22 at hw hG c_q_19 c_a0
  generalize (y_17 ++ [(k_20, .int)]) = y_23 at hw hTs 
  clear c_q_19
  refine t_putUF (ci := 6) (v := .ref q_19) (C := RX6) (T := TX6) (N := 7) hx hb hts iX6 tyX6 tyX6_ok nmX6 hown hw c_a0 n_a0 rfl 4 (by decide) (hts _ tw_187) (fun _ h9 => h9) rfl hin rfl (tyX6_ok 4 (by decide)) rfl rfl (Nat.le_of_ble_eq_true rfl) dX6_init_34 (fun w_24 H locs hw hk c_a0 => ?_)
  have c_a0 : cAt w_24 a0 (.inr (6, [.ref q_1, .int 0, .ref q_7, .ref q_13, .ref q_19, .int 0, .null])) := c_a0
  have hG := hG.set hk (Or.inl rfl)
  refine lv_aload_n hx hb dX6_init_37 rfl (lv_at hl 0 rfl) ?_
  refine lv_bipush (v := 32) hx hb dX6_init_38 (by decide) ?_
  refine va_newa (D := (dC, dI)) (a0 := (32, .inr (.inl (fun _ => 0)))) (N' := 32) (ty := .long) (atype := .long) hx hb (hts _ tw_205) rfl hw.1 hw.2.1 hw.2.2.1 hw.2.2.2.1 hA (fun _ => rfl) (by decide) (by decide) (Nat.le_of_ble_eq_true rfl) (Nat.le_of_ble_eq_true rfl) (Nat.le_of_ble_eq_true rfl) dX6_init_40 (fun q_25 k_26 H hK hP hD hS => ?_)
  have hf := fr_new hD
  have ne_a0_q_25 : a0 ≠ q_25 := fun z => hf _ (z ▸ c_a0)
  obtain ⟨κ_27, hTy, hEx, k_q_25, hno⟩ := newA (k := 42) hw.2.2.2.2 hD (SubT.app (t' := [(k_26, .long)])) (fun _ => Or.inr (Or.inr (Or.inl ⟨rfl, k_26, y_23.length, _, at_last, rfl⟩)))
  have hG := hG.newA (w1 := [(q_25, .inl (k_26, 32, .inr (.inl (fun _ => 0))))]) hEx hno
  have n_a0 : κ_27 a0 = none := by rw [hno _ _ c_a0]; exact n_a0
  have k_q_1 := hEx _ _ k_q_1
  have k_q_7 := hEx _ _ k_q_7
  have k_q_13 := hEx _ _ k_q_13
  have k_q_19 := hEx _ _ k_q_19
  have c_a0 := c_a0.app (w1 := [(q_25, .inl (k_26, 32, .inr (.inl (fun _ => 0))))])
  have hTs := hTs.trans (SubT.app (t' := [(k_26, .long)]))
  have c_q_25 : cAt (w_24 ++ [(q_25, .inl (k_26, 32, .inr (.inl (fun _ => 0))))]) q_25 (.inl (k_26, 32, .inr (.inl (fun _ => 0)))) := cAt_last
  have hw : tW (dC, dI) (y_23 ++ [(k_26, .long)]) κ_27 B A s (w_24 ++ [(q_25, .inl (k_26, 32, .inr (.inl (fun _ => 0))))]) H locs := ⟨hK, hP, hD, hS, hTy⟩
  clear hf hP hD hS hEx hno hTy hK
  generalize (w_24 ++ [(q_25, .inl (k_26, 32, .inr (.inl (fun _ => 0))))]) = w_28 at hw hG c_q_25 c_a0
  generalize (y_23 ++ [(k_26, .long)]) = y_29 at hw hTs 
  clear c_q_25
  refine t_putUF (ci := 6) (v := .ref q_25) (C := RX6) (T := TX6) (N := 7) hx hb hts iX6 tyX6 tyX6_ok nmX6 hown hw c_a0 n_a0 rfl 6 (by decide) (hts _ tw_189) (fun _ h9 => h9) rfl hin rfl (tyX6_ok 6 (by decide)) rfl rfl (Nat.le_of_ble_eq_true rfl) dX6_init_42 (fun w_30 H locs hw hk c_a0 => ?_)
  have c_a0 : cAt w_30 a0 (.inr (6, [.ref q_1, .int 0, .ref q_7, .ref q_13, .ref q_19, .int 0, .ref q_25])) := c_a0
  have hG := hG.set hk (Or.inl rfl)
  have hok : okE (kap κ_27 [(a0, 6)]) y_29 B 6 (.inr (6, [.ref q_1, .int 0, .ref q_7, .ref q_13, .ref q_19, .int 0, .ref q_25])) := by
    refine Or.inl ⟨rfl, _, rfl, rfl, fun j y hy => ?_⟩
    match j, hy with
    | 0, hy => cases hy; exact okV.ref (k := 38) rfl (typeE n_a0 _ _ k_q_1)
    | 1, hy => cases hy; exact okV.int rfl (by decide) (by decide)
    | 2, hy => cases hy; exact okV.ref (k := 39) rfl (typeE n_a0 _ _ k_q_7)
    | 3, hy => cases hy; exact okV.ref (k := 40) rfl (typeE n_a0 _ _ k_q_13)
    | 4, hy => cases hy; exact okV.ref (k := 41) rfl (typeE n_a0 _ _ k_q_19)
    | 5, hy => cases hy; exact okV.int rfl (by decide) (by decide)
    | 6, hy => cases hy; exact okV.ref (k := 42) rfl (typeE n_a0 _ _ k_q_25)
    | j + 7, hy => simp at hy
  have hTy := typeO (k := 6) hw.2.2.2.2 n_a0 c_a0 hok
  clear hok
  have hw : tW (dC, dI) y_29 (kap κ_27 [(a0, 6)]) B A s w_30 H locs := ⟨hw.1, hw.2.1, hw.2.2.1, hw.2.2.2.1, hTy⟩
  clear hTy
  have hG := hG.typ (k := 6) n_a0
  have k_q_1 := typeE (a := a0) (k := 6) n_a0 _ _ k_q_1
  have k_q_7 := typeE (a := a0) (k := 6) n_a0 _ _ k_q_7
  have k_q_13 := typeE (a := a0) (k := 6) n_a0 _ _ k_q_13
  have k_q_19 := typeE (a := a0) (k := 6) n_a0 _ _ k_q_19
  have k_q_25 := typeE (a := a0) (k := 6) n_a0 _ _ k_q_25
  have k_a0 : (kap κ_27 [(a0, 6)]) a0 = some 6 := typeK
  clear n_a0
  generalize (kap κ_27 [(a0, 6)]) = κ_31 at hw hG k_q_1 k_q_7 k_q_13 k_q_19 k_q_25 k_a0
  refine W.widen (k := 5) (n := 468) (Nat.le_of_ble_eq_true rfl) (Nat.le_of_ble_eq_true rfl) ?_
  exact W.vret hx hb hr (fun t ht hW => ⟨⟨(w_30, κ_31, y_29), rfl, ⟨hw.2.2.2.2, hTs, hG, k_a0⟩, by rw [ht]; exact hw.2.1, va_K.moved hW.alike hw.1, hw.2.2.1⟩, hw.2.2.2.1.F ht⟩) hw.2.2.2.1.2.2 dX6_init_45
set_option maxHeartbeats 4000000 in
set_option maxRecDepth 100000 in
theorem k_X8_init (l : Launch) (dC : Nat → ClassId) (dI : Nat → Nat → Nat) (tys : List (ClassId × FieldType)) (κ : tK) (B : Nat) (ws : va_W) (hT : Ty κ tys B ws) (a0 : Nat) (n_a0 : κ a0 = none) (c_a0 : cAt ws a0 (.inr (8, [.int 0, .int 0, .int 0, .int 0, .int 0, .int 0, .int 0, .null, .null, .null, .null, .null, .null]))) (sz : Nat) : Met l yX8_init (ws_u yX8_init cX8_init 1 none) ({ frames := 1, cells := 6, slots := 32, locals := 28 }) (va_Pc [.ref a0] (cPre (dC, dI) tys ws sz)) (va_Qv (fun (u : va_W × tK × List (ClassId × FieldType)) => Ty u.2.1 u.2.2 B u.1 ∧ SubT tys u.2.2 ∧ Gr κ u.2.1 ws u.1 a0 ∧ u.2.1 a0 = some 8) (fun u t => cPost (dC, dI) u.2.2 u.1 (va_A ws sz) t) (va_A ws sz)) 6 32 (va_A ws sz) := by
  refine Met.ofW (cc := cX8_init) (maxL := 1) (ret := none) (by decide) rfl ?_
  intro p e s m args below meth c s₁ B0 hml hv
  obtain ⟨rfl, hsz, hP, hK, hD0, hE⟩ := hv
  have hx := B0.exec
  have hb := B0.bytes
  have hr := B0.returns
  have hts0 := atoms_spec (ws := ws_u yX8_init cX8_init 1 none) B0.pre
  have hts : ∀ w ∈ gT, w.before _ s = true := fun w h => hts0 w (List.mem_cons_of_mem _ h)
  have hown : s.vm.findClass RX8 = some m.cls := findClass_of_methodNamed B0.named
  have hin : meth.name = "<init>" := (name_of_methodNamed B0.named B0.method).1
  subst hsz
  have hD := hD0.self (sz := s.heap.size)
  generalize hAe : va_A ws s.heap.size = A at hD ⊢
  have hA : ∀ q : Nat, s.heap.size ≤ q → A q := fun q h => by rw [← hAe]; exact Or.inr h
  have hw : tW (dC, dI) tys κ B A s ws s.heap [] := ⟨hK, hP, hD, va_S.rf, hT⟩
  have hG : Gr κ κ ws ws a0 := Gr.rf
  have hTs : SubT tys tys := SubT.rf
  clear hP hK hD hD0 hts0
  have hl := lv_entry ([.ref a0]) (n := 1) (Nat.le_of_ble_eq_true rfl)
  rw [lg_entry_eq]
  generalize (lg_sl ([.ref a0]) ++ List.replicate (1 - (lg_sl ([.ref a0])).length) Slot.unset).toArray = ls at hl ⊢
  have hl : lv_has ls 1 [(0, .ref a0)] := hl
  refine lv_aload_n hx hb dX8_init_0 rfl (lv_at hl 0 rfl) ?_
  refine W.objInit hx hb hown (hts _ tw_219) (hts _ tw_28) (hts _ tw_29) rfl (by rw [hml]; exact hl.1) rfl dX8_init_1 (Nat.le_of_ble_eq_true rfl) (Nat.le_of_ble_eq_true rfl) ?_
  refine W.eq (g2 := F0 m 4 ls []) rfl ?_
  refine lv_aload_n hx hb dX8_init_4 rfl (lv_at hl 0 rfl) ?_
  refine lv_iconst (v := (-1)) hx hb dX8_init_5 (by decide) ?_
  refine t_putU (ci := 8) (v := .int (-1)) (C := RX8) (T := TX8) (N := 13) hx hb hts iX8 tyX8 tyX8_ok nmX8 hown hw c_a0 n_a0 rfl 1 (by decide) (hts _ tw_223) (fun _ h9 => h9) rfl (tyX8_ok 1 (by decide)) rfl rfl (Nat.le_of_ble_eq_true rfl) dX8_init_6 (fun w_1 H locs hw hk c_a0 => ?_)
  have c_a0 : cAt w_1 a0 (.inr (8, [.int 0, .int (-1), .int 0, .int 0, .int 0, .int 0, .int 0, .null, .null, .null, .null, .null, .null])) := c_a0
  have hG := hG.set hk (Or.inl rfl)
  refine lv_aload_n hx hb dX8_init_9 rfl (lv_at hl 0 rfl) ?_
  refine lv_iconst (v := (-1)) hx hb dX8_init_10 (by decide) ?_
  refine t_putU (ci := 8) (v := .int (-1)) (C := RX8) (T := TX8) (N := 13) hx hb hts iX8 tyX8 tyX8_ok nmX8 hown hw c_a0 n_a0 rfl 2 (by decide) (hts _ tw_227) (fun _ h9 => h9) rfl (tyX8_ok 2 (by decide)) rfl rfl (Nat.le_of_ble_eq_true rfl) dX8_init_11 (fun w_2 H locs hw hk c_a0 => ?_)
  have c_a0 : cAt w_2 a0 (.inr (8, [.int 0, .int (-1), .int (-1), .int 0, .int 0, .int 0, .int 0, .null, .null, .null, .null, .null, .null])) := c_a0
  have hG := hG.set hk (Or.inl rfl)
  refine lv_aload_n hx hb dX8_init_14 rfl (lv_at hl 0 rfl) ?_
  refine lv_bipush (v := 6) hx hb dX8_init_15 (by decide) ?_
  refine va_newa (D := (dC, dI)) (a0 := (6, .inl (fun _ => 0))) (N' := 6) (ty := .int) (atype := .int) hx hb (hts _ tw_154) rfl hw.1 hw.2.1 hw.2.2.1 hw.2.2.2.1 hA (fun _ => rfl) (by decide) (by decide) (Nat.le_of_ble_eq_true rfl) (Nat.le_of_ble_eq_true rfl) (Nat.le_of_ble_eq_true rfl) dX8_init_17 (fun q_3 k_4 H hK hP hD hS => ?_)
  have hf := fr_new hD
  have ne_a0_q_3 : a0 ≠ q_3 := fun z => hf _ (z ▸ c_a0)
  obtain ⟨κ_5, hTy, hEx, k_q_3, hno⟩ := newA (k := 43) hw.2.2.2.2 hD (SubT.app (t' := [(k_4, .int)])) (fun _ => Or.inr (Or.inl ⟨rfl, k_4, tys.length, _, at_last, rfl, fun j hj => ⟨(by decide : (-2147483648 : Int) ≤ (0 : Int32).toInt), (by decide : (0 : Int32).toInt ≤ (2147483647 : Int))⟩⟩))
  have hG := hG.newA (w1 := [(q_3, .inl (k_4, 6, .inl (fun _ => 0)))]) hEx hno
  have n_a0 : κ_5 a0 = none := by rw [hno _ _ c_a0]; exact n_a0
  have c_a0 := c_a0.app (w1 := [(q_3, .inl (k_4, 6, .inl (fun _ => 0)))])
  have hTs := hTs.trans (SubT.app (t' := [(k_4, .int)]))
  have c_q_3 : cAt (w_2 ++ [(q_3, .inl (k_4, 6, .inl (fun _ => 0)))]) q_3 (.inl (k_4, 6, .inl (fun _ => 0))) := cAt_last
  have hw : tW (dC, dI) (tys ++ [(k_4, .int)]) κ_5 B A s (w_2 ++ [(q_3, .inl (k_4, 6, .inl (fun _ => 0)))]) H locs := ⟨hK, hP, hD, hS, hTy⟩
  clear hf hP hD hS hEx hno hTy hK
  generalize (w_2 ++ [(q_3, .inl (k_4, 6, .inl (fun _ => 0)))]) = w_6 at hw hG c_q_3 c_a0
  generalize (tys ++ [(k_4, .int)]) = y_7 at hw hTs 
  clear c_q_3
  refine t_putUF (ci := 8) (v := .ref q_3) (C := RX8) (T := TX8) (N := 13) hx hb hts iX8 tyX8 tyX8_ok nmX8 hown hw c_a0 n_a0 rfl 7 (by decide) (hts _ tw_238) (fun _ h9 => h9) rfl hin rfl (tyX8_ok 7 (by decide)) rfl rfl (Nat.le_of_ble_eq_true rfl) dX8_init_19 (fun w_8 H locs hw hk c_a0 => ?_)
  have c_a0 : cAt w_8 a0 (.inr (8, [.int 0, .int (-1), .int (-1), .int 0, .int 0, .int 0, .int 0, .ref q_3, .null, .null, .null, .null, .null])) := c_a0
  have hG := hG.set hk (Or.inl rfl)
  refine lv_aload_n hx hb dX8_init_22 rfl (lv_at hl 0 rfl) ?_
  refine lv_bipush (v := 6) hx hb dX8_init_23 (by decide) ?_
  refine va_newa (D := (dC, dI)) (a0 := (6, .inl (fun _ => 0))) (N' := 6) (ty := .int) (atype := .int) hx hb (hts _ tw_154) rfl hw.1 hw.2.1 hw.2.2.1 hw.2.2.2.1 hA (fun _ => rfl) (by decide) (by decide) (Nat.le_of_ble_eq_true rfl) (Nat.le_of_ble_eq_true rfl) (Nat.le_of_ble_eq_true rfl) dX8_init_25 (fun q_9 k_10 H hK hP hD hS => ?_)
  have hf := fr_new hD
  have ne_a0_q_9 : a0 ≠ q_9 := fun z => hf _ (z ▸ c_a0)
  obtain ⟨κ_11, hTy, hEx, k_q_9, hno⟩ := newA (k := 44) hw.2.2.2.2 hD (SubT.app (t' := [(k_10, .int)])) (fun _ => Or.inr (Or.inl ⟨rfl, k_10, y_7.length, _, at_last, rfl, fun j hj => ⟨(by decide : (-2147483648 : Int) ≤ (0 : Int32).toInt), (by decide : (0 : Int32).toInt ≤ (2147483647 : Int))⟩⟩))
  have hG := hG.newA (w1 := [(q_9, .inl (k_10, 6, .inl (fun _ => 0)))]) hEx hno
  have n_a0 : κ_11 a0 = none := by rw [hno _ _ c_a0]; exact n_a0
  have k_q_3 := hEx _ _ k_q_3
  have c_a0 := c_a0.app (w1 := [(q_9, .inl (k_10, 6, .inl (fun _ => 0)))])
  have hTs := hTs.trans (SubT.app (t' := [(k_10, .int)]))
  have c_q_9 : cAt (w_8 ++ [(q_9, .inl (k_10, 6, .inl (fun _ => 0)))]) q_9 (.inl (k_10, 6, .inl (fun _ => 0))) := cAt_last
  have hw : tW (dC, dI) (y_7 ++ [(k_10, .int)]) κ_11 B A s (w_8 ++ [(q_9, .inl (k_10, 6, .inl (fun _ => 0)))]) H locs := ⟨hK, hP, hD, hS, hTy⟩
  clear hf hP hD hS hEx hno hTy hK
  generalize (w_8 ++ [(q_9, .inl (k_10, 6, .inl (fun _ => 0)))]) = w_12 at hw hG c_q_9 c_a0
  generalize (y_7 ++ [(k_10, .int)]) = y_13 at hw hTs 
  clear c_q_9
  refine t_putUF (ci := 8) (v := .ref q_9) (C := RX8) (T := TX8) (N := 13) hx hb hts iX8 tyX8 tyX8_ok nmX8 hown hw c_a0 n_a0 rfl 8 (by decide) (hts _ tw_242) (fun _ h9 => h9) rfl hin rfl (tyX8_ok 8 (by decide)) rfl rfl (Nat.le_of_ble_eq_true rfl) dX8_init_27 (fun w_14 H locs hw hk c_a0 => ?_)
  have c_a0 : cAt w_14 a0 (.inr (8, [.int 0, .int (-1), .int (-1), .int 0, .int 0, .int 0, .int 0, .ref q_3, .ref q_9, .null, .null, .null, .null])) := c_a0
  have hG := hG.set hk (Or.inl rfl)
  refine lv_aload_n hx hb dX8_init_30 rfl (lv_at hl 0 rfl) ?_
  refine lv_bipush (v := 6) hx hb dX8_init_31 (by decide) ?_
  refine va_newa (D := (dC, dI)) (a0 := (6, .inl (fun _ => 0))) (N' := 6) (ty := .int) (atype := .int) hx hb (hts _ tw_154) rfl hw.1 hw.2.1 hw.2.2.1 hw.2.2.2.1 hA (fun _ => rfl) (by decide) (by decide) (Nat.le_of_ble_eq_true rfl) (Nat.le_of_ble_eq_true rfl) (Nat.le_of_ble_eq_true rfl) dX8_init_33 (fun q_15 k_16 H hK hP hD hS => ?_)
  have hf := fr_new hD
  have ne_a0_q_15 : a0 ≠ q_15 := fun z => hf _ (z ▸ c_a0)
  obtain ⟨κ_17, hTy, hEx, k_q_15, hno⟩ := newA (k := 45) hw.2.2.2.2 hD (SubT.app (t' := [(k_16, .int)])) (fun _ => Or.inr (Or.inl ⟨rfl, k_16, y_13.length, _, at_last, rfl, fun j hj => ⟨(by decide : (-2147483648 : Int) ≤ (0 : Int32).toInt), (by decide : (0 : Int32).toInt ≤ (2147483647 : Int))⟩⟩))
  have hG := hG.newA (w1 := [(q_15, .inl (k_16, 6, .inl (fun _ => 0)))]) hEx hno
  have n_a0 : κ_17 a0 = none := by rw [hno _ _ c_a0]; exact n_a0
  have k_q_3 := hEx _ _ k_q_3
  have k_q_9 := hEx _ _ k_q_9
  have c_a0 := c_a0.app (w1 := [(q_15, .inl (k_16, 6, .inl (fun _ => 0)))])
  have hTs := hTs.trans (SubT.app (t' := [(k_16, .int)]))
  have c_q_15 : cAt (w_14 ++ [(q_15, .inl (k_16, 6, .inl (fun _ => 0)))]) q_15 (.inl (k_16, 6, .inl (fun _ => 0))) := cAt_last
  have hw : tW (dC, dI) (y_13 ++ [(k_16, .int)]) κ_17 B A s (w_14 ++ [(q_15, .inl (k_16, 6, .inl (fun _ => 0)))]) H locs := ⟨hK, hP, hD, hS, hTy⟩
  clear hf hP hD hS hEx hno hTy hK
  generalize (w_14 ++ [(q_15, .inl (k_16, 6, .inl (fun _ => 0)))]) = w_18 at hw hG c_q_15 c_a0
  generalize (y_13 ++ [(k_16, .int)]) = y_19 at hw hTs 
  clear c_q_15
  refine t_putUF (ci := 8) (v := .ref q_15) (C := RX8) (T := TX8) (N := 13) hx hb hts iX8 tyX8 tyX8_ok nmX8 hown hw c_a0 n_a0 rfl 9 (by decide) (hts _ tw_245) (fun _ h9 => h9) rfl hin rfl (tyX8_ok 9 (by decide)) rfl rfl (Nat.le_of_ble_eq_true rfl) dX8_init_35 (fun w_20 H locs hw hk c_a0 => ?_)
  have c_a0 : cAt w_20 a0 (.inr (8, [.int 0, .int (-1), .int (-1), .int 0, .int 0, .int 0, .int 0, .ref q_3, .ref q_9, .ref q_15, .null, .null, .null])) := c_a0
  have hG := hG.set hk (Or.inl rfl)
  refine lv_aload_n hx hb dX8_init_38 rfl (lv_at hl 0 rfl) ?_
  refine lv_iconst (v := 4) hx hb dX8_init_39 (by decide) ?_
  refine va_newa (D := (dC, dI)) (a0 := (4, .inl (fun _ => 0))) (N' := 4) (ty := .int) (atype := .int) hx hb (hts _ tw_154) rfl hw.1 hw.2.1 hw.2.2.1 hw.2.2.2.1 hA (fun _ => rfl) (by decide) (by decide) (Nat.le_of_ble_eq_true rfl) (Nat.le_of_ble_eq_true rfl) (Nat.le_of_ble_eq_true rfl) dX8_init_40 (fun q_21 k_22 H hK hP hD hS => ?_)
  have hf := fr_new hD
  have ne_a0_q_21 : a0 ≠ q_21 := fun z => hf _ (z ▸ c_a0)
  obtain ⟨κ_23, hTy, hEx, k_q_21, hno⟩ := newA (k := 46) hw.2.2.2.2 hD (SubT.app (t' := [(k_22, .int)])) (fun _ => Or.inr (Or.inl ⟨rfl, k_22, y_19.length, _, at_last, rfl, fun j hj => ⟨(by decide : (-2147483648 : Int) ≤ (0 : Int32).toInt), (by decide : (0 : Int32).toInt ≤ (2147483647 : Int))⟩⟩))
  have hG := hG.newA (w1 := [(q_21, .inl (k_22, 4, .inl (fun _ => 0)))]) hEx hno
  have n_a0 : κ_23 a0 = none := by rw [hno _ _ c_a0]; exact n_a0
  have k_q_3 := hEx _ _ k_q_3
  have k_q_9 := hEx _ _ k_q_9
  have k_q_15 := hEx _ _ k_q_15
  have c_a0 := c_a0.app (w1 := [(q_21, .inl (k_22, 4, .inl (fun _ => 0)))])
  have hTs := hTs.trans (SubT.app (t' := [(k_22, .int)]))
  have c_q_21 : cAt (w_20 ++ [(q_21, .inl (k_22, 4, .inl (fun _ => 0)))]) q_21 (.inl (k_22, 4, .inl (fun _ => 0))) := cAt_last
  have hw : tW (dC, dI) (y_19 ++ [(k_22, .int)]) κ_23 B A s (w_20 ++ [(q_21, .inl (k_22, 4, .inl (fun _ => 0)))]) H locs := ⟨hK, hP, hD, hS, hTy⟩
  clear hf hP hD hS hEx hno hTy hK
  generalize (w_20 ++ [(q_21, .inl (k_22, 4, .inl (fun _ => 0)))]) = w_24 at hw hG c_q_21 c_a0
  generalize (y_19 ++ [(k_22, .int)]) = y_25 at hw hTs 
  clear c_q_21
  refine t_putUF (ci := 8) (v := .ref q_21) (C := RX8) (T := TX8) (N := 13) hx hb hts iX8 tyX8 tyX8_ok nmX8 hown hw c_a0 n_a0 rfl 10 (by decide) (hts _ tw_248) (fun _ h9 => h9) rfl hin rfl (tyX8_ok 10 (by decide)) rfl rfl (Nat.le_of_ble_eq_true rfl) dX8_init_42 (fun w_26 H locs hw hk c_a0 => ?_)
  have c_a0 : cAt w_26 a0 (.inr (8, [.int 0, .int (-1), .int (-1), .int 0, .int 0, .int 0, .int 0, .ref q_3, .ref q_9, .ref q_15, .ref q_21, .null, .null])) := c_a0
  have hG := hG.set hk (Or.inl rfl)
  refine lv_aload_n hx hb dX8_init_45 rfl (lv_at hl 0 rfl) ?_
  refine lv_iconst (v := 4) hx hb dX8_init_46 (by decide) ?_
  refine va_newa (D := (dC, dI)) (a0 := (4, .inl (fun _ => 0))) (N' := 4) (ty := .int) (atype := .int) hx hb (hts _ tw_154) rfl hw.1 hw.2.1 hw.2.2.1 hw.2.2.2.1 hA (fun _ => rfl) (by decide) (by decide) (Nat.le_of_ble_eq_true rfl) (Nat.le_of_ble_eq_true rfl) (Nat.le_of_ble_eq_true rfl) dX8_init_47 (fun q_27 k_28 H hK hP hD hS => ?_)
  have hf := fr_new hD
  have ne_a0_q_27 : a0 ≠ q_27 := fun z => hf _ (z ▸ c_a0)
  obtain ⟨κ_29, hTy, hEx, k_q_27, hno⟩ := newA (k := 47) hw.2.2.2.2 hD (SubT.app (t' := [(k_28, .int)])) (fun _ => Or.inr (Or.inl ⟨rfl, k_28, y_25.length, _, at_last, rfl, fun j hj => ⟨(by decide : (-2147483648 : Int) ≤ (0 : Int32).toInt), (by decide : (0 : Int32).toInt ≤ (2147483647 : Int))⟩⟩))
  have hG := hG.newA (w1 := [(q_27, .inl (k_28, 4, .inl (fun _ => 0)))]) hEx hno
  have n_a0 : κ_29 a0 = none := by rw [hno _ _ c_a0]; exact n_a0
  have k_q_3 := hEx _ _ k_q_3
  have k_q_9 := hEx _ _ k_q_9
  have k_q_15 := hEx _ _ k_q_15
  have k_q_21 := hEx _ _ k_q_21
  have c_a0 := c_a0.app (w1 := [(q_27, .inl (k_28, 4, .inl (fun _ => 0)))])
  have hTs := hTs.trans (SubT.app (t' := [(k_28, .int)]))
  have c_q_27 : cAt (w_26 ++ [(q_27, .inl (k_28, 4, .inl (fun _ => 0)))]) q_27 (.inl (k_28, 4, .inl (fun _ => 0))) := cAt_last
  have hw : tW (dC, dI) (y_25 ++ [(k_28, .int)]) κ_29 B A s (w_26 ++ [(q_27, .inl (k_28, 4, .inl (fun _ => 0)))]) H locs := ⟨hK, hP, hD, hS, hTy⟩
  clear hf hP hD hS hEx hno hTy hK
  generalize (w_26 ++ [(q_27, .inl (k_28, 4, .inl (fun _ => 0)))]) = w_30 at hw hG c_q_27 c_a0
  generalize (y_25 ++ [(k_28, .int)]) = y_31 at hw hTs 
  clear c_q_27
  refine t_putUF (ci := 8) (v := .ref q_27) (C := RX8) (T := TX8) (N := 13) hx hb hts iX8 tyX8 tyX8_ok nmX8 hown hw c_a0 n_a0 rfl 11 (by decide) (hts _ tw_250) (fun _ h9 => h9) rfl hin rfl (tyX8_ok 11 (by decide)) rfl rfl (Nat.le_of_ble_eq_true rfl) dX8_init_49 (fun w_32 H locs hw hk c_a0 => ?_)
  have c_a0 : cAt w_32 a0 (.inr (8, [.int 0, .int (-1), .int (-1), .int 0, .int 0, .int 0, .int 0, .ref q_3, .ref q_9, .ref q_15, .ref q_21, .ref q_27, .null])) := c_a0
  have hG := hG.set hk (Or.inl rfl)
  refine lv_aload_n hx hb dX8_init_52 rfl (lv_at hl 0 rfl) ?_
  refine lv_bipush (v := 6) hx hb dX8_init_53 (by decide) ?_
  refine va_newa (D := (dC, dI)) (a0 := (6, .inl (fun _ => 0))) (N' := 6) (ty := .int) (atype := .int) hx hb (hts _ tw_154) rfl hw.1 hw.2.1 hw.2.2.1 hw.2.2.2.1 hA (fun _ => rfl) (by decide) (by decide) (Nat.le_of_ble_eq_true rfl) (Nat.le_of_ble_eq_true rfl) (Nat.le_of_ble_eq_true rfl) dX8_init_55 (fun q_33 k_34 H hK hP hD hS => ?_)
  have hf := fr_new hD
  have ne_a0_q_33 : a0 ≠ q_33 := fun z => hf _ (z ▸ c_a0)
  obtain ⟨κ_35, hTy, hEx, k_q_33, hno⟩ := newA (k := 48) hw.2.2.2.2 hD (SubT.app (t' := [(k_34, .int)])) (fun _ => Or.inr (Or.inl ⟨rfl, k_34, y_31.length, _, at_last, rfl, fun j hj => ⟨(by decide : (-2147483648 : Int) ≤ (0 : Int32).toInt), (by decide : (0 : Int32).toInt ≤ (2147483647 : Int))⟩⟩))
  have hG := hG.newA (w1 := [(q_33, .inl (k_34, 6, .inl (fun _ => 0)))]) hEx hno
  have n_a0 : κ_35 a0 = none := by rw [hno _ _ c_a0]; exact n_a0
  have k_q_3 := hEx _ _ k_q_3
  have k_q_9 := hEx _ _ k_q_9
  have k_q_15 := hEx _ _ k_q_15
  have k_q_21 := hEx _ _ k_q_21
  have k_q_27 := hEx _ _ k_q_27
  have c_a0 := c_a0.app (w1 := [(q_33, .inl (k_34, 6, .inl (fun _ => 0)))])
  have hTs := hTs.trans (SubT.app (t' := [(k_34, .int)]))
  have c_q_33 : cAt (w_32 ++ [(q_33, .inl (k_34, 6, .inl (fun _ => 0)))]) q_33 (.inl (k_34, 6, .inl (fun _ => 0))) := cAt_last
  have hw : tW (dC, dI) (y_31 ++ [(k_34, .int)]) κ_35 B A s (w_32 ++ [(q_33, .inl (k_34, 6, .inl (fun _ => 0)))]) H locs := ⟨hK, hP, hD, hS, hTy⟩
  clear hf hP hD hS hEx hno hTy hK
  generalize (w_32 ++ [(q_33, .inl (k_34, 6, .inl (fun _ => 0)))]) = w_36 at hw hG c_q_33 c_a0
  generalize (y_31 ++ [(k_34, .int)]) = y_37 at hw hTs 
  clear c_q_33
  refine t_putUF (ci := 8) (v := .ref q_33) (C := RX8) (T := TX8) (N := 13) hx hb hts iX8 tyX8 tyX8_ok nmX8 hown hw c_a0 n_a0 rfl 12 (by decide) (hts _ tw_252) (fun _ h9 => h9) rfl hin rfl (tyX8_ok 12 (by decide)) rfl rfl (Nat.le_of_ble_eq_true rfl) dX8_init_57 (fun w_38 H locs hw hk c_a0 => ?_)
  have c_a0 : cAt w_38 a0 (.inr (8, [.int 0, .int (-1), .int (-1), .int 0, .int 0, .int 0, .int 0, .ref q_3, .ref q_9, .ref q_15, .ref q_21, .ref q_27, .ref q_33])) := c_a0
  have hG := hG.set hk (Or.inl rfl)
  have hok : okE (kap κ_35 [(a0, 8)]) y_37 B 8 (.inr (8, [.int 0, .int (-1), .int (-1), .int 0, .int 0, .int 0, .int 0, .ref q_3, .ref q_9, .ref q_15, .ref q_21, .ref q_27, .ref q_33])) := by
    refine Or.inl ⟨rfl, _, rfl, rfl, fun j y hy => ?_⟩
    match j, hy with
    | 0, hy => cases hy; exact okV.int rfl (by decide) (by decide)
    | 1, hy => cases hy; exact okV.int rfl (by decide) (by decide)
    | 2, hy => cases hy; exact okV.int rfl (by decide) (by decide)
    | 3, hy => cases hy; exact okV.int rfl (by decide) (by decide)
    | 4, hy => cases hy; exact okV.int rfl (by decide) (by decide)
    | 5, hy => cases hy; exact okV.int rfl (by decide) (by decide)
    | 6, hy => cases hy; exact okV.int rfl (by decide) (by decide)
    | 7, hy => cases hy; exact okV.ref (k := 43) rfl (typeE n_a0 _ _ k_q_3)
    | 8, hy => cases hy; exact okV.ref (k := 44) rfl (typeE n_a0 _ _ k_q_9)
    | 9, hy => cases hy; exact okV.ref (k := 45) rfl (typeE n_a0 _ _ k_q_15)
    | 10, hy => cases hy; exact okV.ref (k := 46) rfl (typeE n_a0 _ _ k_q_21)
    | 11, hy => cases hy; exact okV.ref (k := 47) rfl (typeE n_a0 _ _ k_q_27)
    | 12, hy => cases hy; exact okV.ref (k := 48) rfl (typeE n_a0 _ _ k_q_33)
    | j + 13, hy => simp at hy
  have hTy := typeO (k := 8) hw.2.2.2.2 n_a0 c_a0 hok
  clear hok
  have hw : tW (dC, dI) y_37 (kap κ_35 [(a0, 8)]) B A s w_38 H locs := ⟨hw.1, hw.2.1, hw.2.2.1, hw.2.2.2.1, hTy⟩
  clear hTy
  have hG := hG.typ (k := 8) n_a0
  have k_q_3 := typeE (a := a0) (k := 8) n_a0 _ _ k_q_3
  have k_q_9 := typeE (a := a0) (k := 8) n_a0 _ _ k_q_9
  have k_q_15 := typeE (a := a0) (k := 8) n_a0 _ _ k_q_15
  have k_q_21 := typeE (a := a0) (k := 8) n_a0 _ _ k_q_21
  have k_q_27 := typeE (a := a0) (k := 8) n_a0 _ _ k_q_27
  have k_q_33 := typeE (a := a0) (k := 8) n_a0 _ _ k_q_33
  have k_a0 : (kap κ_35 [(a0, 8)]) a0 = some 8 := typeK
  clear n_a0
  generalize (kap κ_35 [(a0, 8)]) = κ_39 at hw hG k_q_3 k_q_9 k_q_15 k_q_21 k_q_27 k_q_33 k_a0
  refine W.widen (k := 6) (n := 32) (Nat.le_of_ble_eq_true rfl) (Nat.le_of_ble_eq_true rfl) ?_
  exact W.vret hx hb hr (fun t ht hW => ⟨⟨(w_38, κ_39, y_37), rfl, ⟨hw.2.2.2.2, hTs, hG, k_a0⟩, by rw [ht]; exact hw.2.1, va_K.moved hW.alike hw.1, hw.2.2.1⟩, hw.2.2.2.1.F ht⟩) hw.2.2.2.1.2.2 dX8_init_60
set_option maxHeartbeats 4000000 in
set_option maxRecDepth 100000 in
theorem k_X10_init (l : Launch) (dC : Nat → ClassId) (dI : Nat → Nat → Nat) (tys : List (ClassId × FieldType)) (κ : tK) (B : Nat) (ws : va_W) (hT : Ty κ tys B ws) (a0 : Nat) (n_a0 : κ a0 = none) (c_a0 : cAt ws a0 (.inr (10, [.null, .null, .int 0, .int 0, .int 0, .null, .null, .int 0]))) (a1 : Nat) (k_a1 : κ a1 = some 0) (sz : Nat) : Met l yX10_init (ws_u yX10_init cX10_init 2 none) ({ frames := 2, cells := 9, slots := 65, locals := 48 }) (va_Pc [.ref a0, .ref a1] (cPre (dC, dI) tys ws sz)) (va_Qv (fun (u : va_W × tK × List (ClassId × FieldType)) => Ty u.2.1 u.2.2 B u.1 ∧ SubT tys u.2.2 ∧ Gr κ u.2.1 ws u.1 a0 ∧ u.2.1 a0 = some 10 ∧ fld u.1 a0 10 3 (.int 0) ∧ fld u.1 a0 10 7 (.int 0) ∧ fld u.1 a0 10 0 (.ref a1)) (fun u t => cPost (dC, dI) u.2.2 u.1 (va_A ws sz) t) (va_A ws sz)) 9 65 (va_A ws sz) := by
  refine Met.ofW (cc := cX10_init) (maxL := 2) (ret := none) (by decide) rfl ?_
  intro p e s m args below meth c s₁ B0 hml hv
  obtain ⟨rfl, hsz, hP, hK, hD0, hE⟩ := hv
  have hx := B0.exec
  have hb := B0.bytes
  have hr := B0.returns
  have hts0 := atoms_spec (ws := ws_u yX10_init cX10_init 2 none) B0.pre
  have hts : ∀ w ∈ gT, w.before _ s = true := fun w h => hts0 w (List.mem_cons_of_mem _ h)
  have hown : s.vm.findClass RX10 = some m.cls := findClass_of_methodNamed B0.named
  have hin : meth.name = "<init>" := (name_of_methodNamed B0.named B0.method).1
  subst hsz
  have hD := hD0.self (sz := s.heap.size)
  generalize hAe : va_A ws s.heap.size = A at hD ⊢
  have hA : ∀ q : Nat, s.heap.size ≤ q → A q := fun q h => by rw [← hAe]; exact Or.inr h
  have hw : tW (dC, dI) tys κ B A s ws s.heap [] := ⟨hK, hP, hD, va_S.rf, hT⟩
  have hG : Gr κ κ ws ws a0 := Gr.rf
  have hTs : SubT tys tys := SubT.rf
  clear hP hK hD hD0 hts0
  have hl := lv_entry ([.ref a0, .ref a1]) (n := 2) (Nat.le_of_ble_eq_true rfl)
  rw [lg_entry_eq]
  generalize (lg_sl ([.ref a0, .ref a1]) ++ List.replicate (2 - (lg_sl ([.ref a0, .ref a1])).length) Slot.unset).toArray = ls at hl ⊢
  have hl : lv_has ls 2 [(0, .ref a0), (1, .ref a1)] := hl
  refine lv_aload_n hx hb dX10_init_0 rfl (lv_at hl 0 rfl) ?_
  refine W.objInit hx hb hown (hts _ tw_213) (hts _ tw_28) (hts _ tw_29) rfl (by rw [hml]; exact hl.1) rfl dX10_init_1 (Nat.le_of_ble_eq_true rfl) (Nat.le_of_ble_eq_true rfl) ?_
  refine W.eq (g2 := F0 m 4 ls []) rfl ?_
  refine lv_aload_n hx hb dX10_init_4 rfl (lv_at hl 0 rfl) ?_
  refine lv_aload_n hx hb dX10_init_5 rfl (lv_at hl 1 rfl) ?_
  refine t_putU (ci := 10) (v := .ref a1) (C := RX10) (T := TX10) (N := 8) hx hb hts iX10 tyX10 tyX10_ok nmX10 hown hw c_a0 n_a0 rfl 0 (by decide) (hts _ tw_281) (fun _ h9 => h9) rfl (tyX10_ok 0 (by decide)) rfl rfl (Nat.le_of_ble_eq_true rfl) dX10_init_6 (fun w_1 H locs hw hk c_a0 => ?_)
  have c_a0 : cAt w_1 a0 (.inr (10, [.ref a1, .null, .int 0, .int 0, .int 0, .null, .null, .int 0])) := c_a0
  have hG := hG.set hk (Or.inl rfl)
  refine lv_aload_n hx hb dX10_init_9 rfl (lv_at hl 0 rfl) ?_
  refine va_new (ci := 8) (fs := [.int 0, .int 0, .int 0, .int 0, .int 0, .int 0, .int 0, .null, .null, .null, .null, .null, .null]) (C := RX8) (T := TX8) (N := 13) hx hb hts iX8 tyX8 tyX8_ok hown (hts _ tw_214) (hts _ tw_215) (hts _ tw_8) hw.1 hw.2.1 hw.2.2.1 hw.2.2.2.1 hA rfl dfX8 (Nat.le_of_ble_eq_true rfl) (Nat.le_of_ble_eq_true rfl) dX10_init_10 (fun q_2 H hP hD hS => ?_)
  have hf := fr_new hD
  have ne_a0_q_2 : a0 ≠ q_2 := fun z => hf _ (z ▸ c_a0)
  have n_q_2 := hw.2.2.2.2.nn0 hf
  have z_q_2 := hG.fresh c_a0 hf
  have hG := hG.app (w1 := [(q_2, .inr (8, [.int 0, .int 0, .int 0, .int 0, .int 0, .int 0, .int 0, .null, .null, .null, .null, .null, .null]))])
  have c_a0 := c_a0.app (w1 := [(q_2, .inr (8, [.int 0, .int 0, .int 0, .int 0, .int 0, .int 0, .int 0, .null, .null, .null, .null, .null, .null]))])
  have c_q_2 : cAt (w_1 ++ [(q_2, .inr (8, [.int 0, .int 0, .int 0, .int 0, .int 0, .int 0, .int 0, .null, .null, .null, .null, .null, .null]))]) q_2 (.inr (8, [.int 0, .int 0, .int 0, .int 0, .int 0, .int 0, .int 0, .null, .null, .null, .null, .null, .null])) := cAt_last
  have hw : tW (dC, dI) tys κ B A s (w_1 ++ [(q_2, .inr (8, [.int 0, .int 0, .int 0, .int 0, .int 0, .int 0, .int 0, .null, .null, .null, .null, .null, .null]))]) H locs := ⟨hw.1, hP, hD, hS, hw.2.2.2.2.appT SubT.rf⟩
  clear hf hP hD hS
  generalize (w_1 ++ [(q_2, .inr (8, [.int 0, .int 0, .int 0, .int 0, .int 0, .int 0, .int 0, .null, .null, .null, .null, .null, .null]))]) = w_3 at hw hG c_q_2 c_a0
  refine lv_dup hx hb dX10_init_13 rfl ?_
  refine t_callK (va_runI (As := []) (rest := [.ref q_2, .ref a0]) ⟨hx, hb, hml, hown, hts⟩ (k_X8_init l dC dI tys κ B w_3 hw.2.2.2.2 q_2 n_q_2 c_q_2  H.size) (cwI 0 hts (gU tw_218) rfl rfl rfl (hts _ tw_8) (hts _ tw_216) (hts _ tw_217) rfl (by decide +kernel) ⟨(Nat.le_of_ble_eq_true rfl), (Nat.le_of_ble_eq_true rfl)⟩) ⟨cPre.blind, cPre.use hw.2.1 hw.1 hw.2.2.1 hE⟩ rfl rfl hl.1 rfl (lv_room (Nat.le_of_ble_eq_true rfl)) dX10_init_14 ⟨(Nat.le_of_ble_eq_true rfl), (Nat.le_of_ble_eq_true rfl)⟩) hw hA (fun _ h => h.1) (fun u H locs hp hw => ?_)
  obtain ⟨w_4, κ_5, y_6⟩ := u
  obtain ⟨_, hTs1, hGc, kn_q_2⟩ := hp
  dsimp only at hTs1 hGc kn_q_2 hw
  have hG := hG.call hGc z_q_2
  have hTs := hTs.trans hTs1
  have k_a1 := hGc.1 _ _ k_a1
  have n_a0 := (hGc.2 _ _ ne_a0_q_2 c_a0).2 n_a0
  have c_a0 := (hGc.2 _ _ ne_a0_q_2 c_a0).1
  have k_q_2 := kn_q_2
  clear kn_q_2 c_q_2 n_q_2
  refine t_putUF (ci := 10) (v := .ref q_2) (C := RX10) (T := TX10) (N := 8) hx hb hts iX10 tyX10 tyX10_ok nmX10 hown hw c_a0 n_a0 rfl 1 (by decide) (hts _ tw_284) (fun _ h9 => h9) rfl hin rfl (tyX10_ok 1 (by decide)) rfl rfl (Nat.le_of_ble_eq_true rfl) dX10_init_17 (fun w_7 H locs hw hk c_a0 => ?_)
  have c_a0 : cAt w_7 a0 (.inr (10, [.ref a1, .ref q_2, .int 0, .int 0, .int 0, .null, .null, .int 0])) := c_a0
  have hG := hG.set hk (Or.inl rfl)
  refine lv_aload_n hx hb dX10_init_20 rfl (lv_at hl 0 rfl) ?_
  refine lv_iconst (v := (-1)) hx hb dX10_init_21 (by decide) ?_
  refine t_putU (ci := 10) (v := .int (-1)) (C := RX10) (T := TX10) (N := 8) hx hb hts iX10 tyX10 tyX10_ok nmX10 hown hw c_a0 n_a0 rfl 2 (by decide) (hts _ tw_286) (fun _ h9 => h9) rfl (tyX10_ok 2 (by decide)) rfl rfl (Nat.le_of_ble_eq_true rfl) dX10_init_22 (fun w_8 H locs hw hk c_a0 => ?_)
  have c_a0 : cAt w_8 a0 (.inr (10, [.ref a1, .ref q_2, .int (-1), .int 0, .int 0, .null, .null, .int 0])) := c_a0
  have hG := hG.set hk (Or.inl rfl)
  refine lv_aload_n hx hb dX10_init_25 rfl (lv_at hl 0 rfl) ?_
  refine lv_bipush (v := 10) hx hb dX10_init_26 (by decide) ?_
  refine va_newa (D := (dC, dI)) (a0 := (10, .inl (fun _ => 0))) (N' := 10) (ty := .int) (atype := .int) hx hb (hts _ tw_154) rfl hw.1 hw.2.1 hw.2.2.1 hw.2.2.2.1 hA (fun _ => rfl) (by decide) (by decide) (Nat.le_of_ble_eq_true rfl) (Nat.le_of_ble_eq_true rfl) (Nat.le_of_ble_eq_true rfl) dX10_init_28 (fun q_9 k_10 H hK hP hD hS => ?_)
  have hf := fr_new hD
  have ne_a0_q_9 : a0 ≠ q_9 := fun z => hf _ (z ▸ c_a0)
  obtain ⟨κ_11, hTy, hEx, k_q_9, hno⟩ := newA (k := 50) hw.2.2.2.2 hD (SubT.app (t' := [(k_10, .int)])) (fun _ => Or.inr (Or.inl ⟨rfl, k_10, y_6.length, _, at_last, rfl, fun j hj => ⟨(by decide : (0 : Int) ≤ (0 : Int32).toInt), (by decide : (0 : Int32).toInt ≤ (60 : Int))⟩⟩))
  have hG := hG.newA (w1 := [(q_9, .inl (k_10, 10, .inl (fun _ => 0)))]) hEx hno
  have n_a0 : κ_11 a0 = none := by rw [hno _ _ c_a0]; exact n_a0
  have k_a1 := hEx _ _ k_a1
  have k_q_2 := hEx _ _ k_q_2
  have c_a0 := c_a0.app (w1 := [(q_9, .inl (k_10, 10, .inl (fun _ => 0)))])
  have hTs := hTs.trans (SubT.app (t' := [(k_10, .int)]))
  have c_q_9 : cAt (w_8 ++ [(q_9, .inl (k_10, 10, .inl (fun _ => 0)))]) q_9 (.inl (k_10, 10, .inl (fun _ => 0))) := cAt_last
  have hw : tW (dC, dI) (y_6 ++ [(k_10, .int)]) κ_11 B A s (w_8 ++ [(q_9, .inl (k_10, 10, .inl (fun _ => 0)))]) H locs := ⟨hK, hP, hD, hS, hTy⟩
  clear hf hP hD hS hEx hno hTy hK
  generalize (w_8 ++ [(q_9, .inl (k_10, 10, .inl (fun _ => 0)))]) = w_12 at hw hG c_q_9 c_a0
  generalize (y_6 ++ [(k_10, .int)]) = y_13 at hw hTs 
  clear c_q_9
  refine t_putUF (ci := 10) (v := .ref q_9) (C := RX10) (T := TX10) (N := 8) hx hb hts iX10 tyX10 tyX10_ok nmX10 hown hw c_a0 n_a0 rfl 5 (by decide) (hts _ tw_293) (fun _ h9 => h9) rfl hin rfl (tyX10_ok 5 (by decide)) rfl rfl (Nat.le_of_ble_eq_true rfl) dX10_init_30 (fun w_14 H locs hw hk c_a0 => ?_)
  have c_a0 : cAt w_14 a0 (.inr (10, [.ref a1, .ref q_2, .int (-1), .int 0, .int 0, .ref q_9, .null, .int 0])) := c_a0
  have hG := hG.set hk (Or.inl rfl)
  refine lv_aload_n hx hb dX10_init_33 rfl (lv_at hl 0 rfl) ?_
  refine lv_bipush (v := 10) hx hb dX10_init_34 (by decide) ?_
  refine va_newa (D := (dC, dI)) (a0 := (10, .inl (fun _ => 0))) (N' := 10) (ty := .int) (atype := .int) hx hb (hts _ tw_154) rfl hw.1 hw.2.1 hw.2.2.1 hw.2.2.2.1 hA (fun _ => rfl) (by decide) (by decide) (Nat.le_of_ble_eq_true rfl) (Nat.le_of_ble_eq_true rfl) (Nat.le_of_ble_eq_true rfl) dX10_init_36 (fun q_15 k_16 H hK hP hD hS => ?_)
  have hf := fr_new hD
  have ne_a0_q_15 : a0 ≠ q_15 := fun z => hf _ (z ▸ c_a0)
  obtain ⟨κ_17, hTy, hEx, k_q_15, hno⟩ := newA (k := 51) hw.2.2.2.2 hD (SubT.app (t' := [(k_16, .int)])) (fun _ => Or.inr (Or.inl ⟨rfl, k_16, y_13.length, _, at_last, rfl, fun j hj => ⟨(by decide : (-2147483648 : Int) ≤ (0 : Int32).toInt), (by decide : (0 : Int32).toInt ≤ (2147483647 : Int))⟩⟩))
  have hG := hG.newA (w1 := [(q_15, .inl (k_16, 10, .inl (fun _ => 0)))]) hEx hno
  have n_a0 : κ_17 a0 = none := by rw [hno _ _ c_a0]; exact n_a0
  have k_a1 := hEx _ _ k_a1
  have k_q_2 := hEx _ _ k_q_2
  have k_q_9 := hEx _ _ k_q_9
  have c_a0 := c_a0.app (w1 := [(q_15, .inl (k_16, 10, .inl (fun _ => 0)))])
  have hTs := hTs.trans (SubT.app (t' := [(k_16, .int)]))
  have c_q_15 : cAt (w_14 ++ [(q_15, .inl (k_16, 10, .inl (fun _ => 0)))]) q_15 (.inl (k_16, 10, .inl (fun _ => 0))) := cAt_last
  have hw : tW (dC, dI) (y_13 ++ [(k_16, .int)]) κ_17 B A s (w_14 ++ [(q_15, .inl (k_16, 10, .inl (fun _ => 0)))]) H locs := ⟨hK, hP, hD, hS, hTy⟩
  clear hf hP hD hS hEx hno hTy hK
  generalize (w_14 ++ [(q_15, .inl (k_16, 10, .inl (fun _ => 0)))]) = w_18 at hw hG c_q_15 c_a0
  generalize (y_13 ++ [(k_16, .int)]) = y_19 at hw hTs 
  clear c_q_15
  refine t_putUF (ci := 10) (v := .ref q_15) (C := RX10) (T := TX10) (N := 8) hx hb hts iX10 tyX10 tyX10_ok nmX10 hown hw c_a0 n_a0 rfl 6 (by decide) (hts _ tw_296) (fun _ h9 => h9) rfl hin rfl (tyX10_ok 6 (by decide)) rfl rfl (Nat.le_of_ble_eq_true rfl) dX10_init_38 (fun w_20 H locs hw hk c_a0 => ?_)
  have c_a0 : cAt w_20 a0 (.inr (10, [.ref a1, .ref q_2, .int (-1), .int 0, .int 0, .ref q_9, .ref q_15, .int 0])) := c_a0
  have hG := hG.set hk (Or.inl rfl)
  have hok : okE (kap κ_17 [(a0, 10)]) y_19 B 10 (.inr (10, [.ref a1, .ref q_2, .int (-1), .int 0, .int 0, .ref q_9, .ref q_15, .int 0])) := by
    refine Or.inl ⟨rfl, _, rfl, rfl, fun j y hy => ?_⟩
    match j, hy with
    | 0, hy => cases hy; exact okV.ref (k := 0) rfl (typeE n_a0 _ _ k_a1)
    | 1, hy => cases hy; exact okV.ref (k := 8) rfl (typeE n_a0 _ _ k_q_2)
    | 2, hy => cases hy; exact okV.int rfl (by decide) (by decide)
    | 3, hy => cases hy; exact okV.int rfl (by decide) (by decide)
    | 4, hy => cases hy; exact okV.int rfl (by decide) (by decide)
    | 5, hy => cases hy; exact okV.ref (k := 50) rfl (typeE n_a0 _ _ k_q_9)
    | 6, hy => cases hy; exact okV.ref (k := 51) rfl (typeE n_a0 _ _ k_q_15)
    | 7, hy => cases hy; exact okV.int rfl (by decide) (by decide)
    | j + 8, hy => simp at hy
  have hTy := typeO (k := 10) hw.2.2.2.2 n_a0 c_a0 hok
  clear hok
  have hw : tW (dC, dI) y_19 (kap κ_17 [(a0, 10)]) B A s w_20 H locs := ⟨hw.1, hw.2.1, hw.2.2.1, hw.2.2.2.1, hTy⟩
  clear hTy
  have hG := hG.typ (k := 10) n_a0
  have k_a1 := typeE (a := a0) (k := 10) n_a0 _ _ k_a1
  have k_q_2 := typeE (a := a0) (k := 10) n_a0 _ _ k_q_2
  have k_q_9 := typeE (a := a0) (k := 10) n_a0 _ _ k_q_9
  have k_q_15 := typeE (a := a0) (k := 10) n_a0 _ _ k_q_15
  have k_a0 : (kap κ_17 [(a0, 10)]) a0 = some 10 := typeK
  clear n_a0
  generalize (kap κ_17 [(a0, 10)]) = κ_21 at hw hG k_a1 k_q_2 k_q_9 k_q_15 k_a0
  refine W.widen (k := 9) (n := 65) (Nat.le_of_ble_eq_true rfl) (Nat.le_of_ble_eq_true rfl) ?_
  exact W.vret hx hb hr (fun t ht hW => ⟨⟨(w_20, κ_21, y_19), rfl, ⟨hw.2.2.2.2, hTs, hG, k_a0, c_a0.fld (k := 3) rfl, c_a0.fld (k := 7) rfl, c_a0.fld (k := 0) rfl⟩, by rw [ht]; exact hw.2.1, va_K.moved hW.alike hw.1, hw.2.2.1⟩, hw.2.2.2.1.F ht⟩) hw.2.2.2.1.2.2 dX10_init_41
set_option maxHeartbeats 4000000 in
set_option maxRecDepth 100000 in
theorem k_X4_init (l : Launch) (dC : Nat → ClassId) (dI : Nat → Nat → Nat) (tys : List (ClassId × FieldType)) (κ : tK) (B : Nat) (ws : va_W) (hT : Ty κ tys B ws) (a0 : Nat) (n_a0 : κ a0 = none) (c_a0 : cAt ws a0 (.inr (4, [.null, .int 0, .int 0]))) (sz : Nat) : Met l yX4_init (ws_u yX4_init cX4_init 2 none) ({ frames := 2, cells := 141, slots := 920, locals := 48 }) (va_Pc [.ref a0] (cPre (dC, dI) tys ws sz)) (va_Qv (fun (u : va_W × tK × List (ClassId × FieldType)) => Ty u.2.1 u.2.2 B u.1 ∧ SubT tys u.2.2 ∧ Gr κ u.2.1 ws u.1 a0 ∧ u.2.1 a0 = some 4) (fun u t => cPost (dC, dI) u.2.2 u.1 (va_A ws sz) t) (va_A ws sz)) 141 920 (va_A ws sz) := by
  refine Met.ofW (cc := cX4_init) (maxL := 2) (ret := none) (by decide) rfl ?_
  intro p e s m args below meth c s₁ B0 hml hv
  obtain ⟨rfl, hsz, hP, hK, hD0, hE⟩ := hv
  have hx := B0.exec
  have hb := B0.bytes
  have hr := B0.returns
  have hts0 := atoms_spec (ws := ws_u yX4_init cX4_init 2 none) B0.pre
  have hts : ∀ w ∈ gT, w.before _ s = true := fun w h => hts0 w (List.mem_cons_of_mem _ h)
  have hown : s.vm.findClass RX4 = some m.cls := findClass_of_methodNamed B0.named
  have hin : meth.name = "<init>" := (name_of_methodNamed B0.named B0.method).1
  subst hsz
  have hD := hD0.self (sz := s.heap.size)
  generalize hAe : va_A ws s.heap.size = A at hD ⊢
  have hA : ∀ q : Nat, s.heap.size ≤ q → A q := fun q h => by rw [← hAe]; exact Or.inr h
  have hw : tW (dC, dI) tys κ B A s ws s.heap [] := ⟨hK, hP, hD, va_S.rf, hT⟩
  have hG : Gr κ κ ws ws a0 := Gr.rf
  have hTs : SubT tys tys := SubT.rf
  clear hP hK hD hD0 hts0
  have hl := lv_entry ([.ref a0]) (n := 2) (Nat.le_of_ble_eq_true rfl)
  rw [lg_entry_eq]
  generalize (lg_sl ([.ref a0]) ++ List.replicate (2 - (lg_sl ([.ref a0])).length) Slot.unset).toArray = ls at hl ⊢
  have hl : lv_has ls 2 [(0, .ref a0)] := hl
  refine lv_aload_n hx hb dX4_init_0 rfl (lv_at hl 0 rfl) ?_
  refine W.objInit hx hb hown (hts _ tw_323) (hts _ tw_28) (hts _ tw_29) rfl (by rw [hml]; exact hl.1) rfl dX4_init_1 (Nat.le_of_ble_eq_true rfl) (Nat.le_of_ble_eq_true rfl) ?_
  refine W.eq (g2 := F0 m 4 ls []) rfl ?_
  refine lv_aload_n hx hb dX4_init_4 rfl (lv_at hl 0 rfl) ?_
  refine lv_bipush (v := 20) hx hb dX4_init_5 (by decide) ?_
  refine va_newq (D := (dC, dI)) (C := RX8) (N' := 20) hx hb hown (hts _ tw_324) hE.aoX8 hw.1 hw.2.1 hw.2.2.1 hw.2.2.2.1 hA (by decide) (by decide) (Nat.le_of_ble_eq_true rfl) (Nat.le_of_ble_eq_true rfl) (Nat.le_of_ble_eq_true rfl) dX4_init_7 (fun q_1 k_2 H hK hP hD hS => ?_)
  have t_q_1 : ∃ t0 : Nat, (tys ++ [(k_2, .object RX8)])[t0]? = some (k_2, .object RX8) := ⟨_, at_last⟩
  have hf := fr_new hD
  have ne_a0_q_1 : a0 ≠ q_1 := fun z => hf _ (z ▸ c_a0)
  have n_q_1 := hw.2.2.2.2.nn0 hf
  have z_q_1 := hG.fresh c_a0 hf
  have hG := hG.app (w1 := [(q_1, .inl (k_2, 20, .inr (.inr (.inr (.inr (fun _ => none))))))])
  have c_a0 := c_a0.app (w1 := [(q_1, .inl (k_2, 20, .inr (.inr (.inr (.inr (fun _ => none))))))])
  have hTs := hTs.trans (SubT.app (t' := [(k_2, .object RX8)]))
  have c_q_1 : cAt (ws ++ [(q_1, .inl (k_2, 20, .inr (.inr (.inr (.inr (fun _ => none))))))]) q_1 (.inl (k_2, 20, .inr (.inr (.inr (.inr (fun _ => none)))))) := cAt_last
  have hw : tW (dC, dI) (tys ++ [(k_2, .object RX8)]) κ B A s (ws ++ [(q_1, .inl (k_2, 20, .inr (.inr (.inr (.inr (fun _ => none))))))]) H [] := ⟨hK, hP, hD, hS, hw.2.2.2.2.appT (SubT.app (t' := [(k_2, .object RX8)]))⟩
  clear hf hP hD hS hK
  generalize (ws ++ [(q_1, .inl (k_2, 20, .inr (.inr (.inr (.inr (fun _ => none))))))]) = w_3 at hw hG c_q_1 c_a0
  generalize (tys ++ [(k_2, .object RX8)]) = y_4 at hw hTs t_q_1
  have hF_q_1 : fil κ (fun _ => none) 0 8 := fil.nil
  refine t_putUF (ci := 4) (v := .ref q_1) (C := RX4) (T := TX4) (N := 3) hx hb hts iX4 tyX4 tyX4_ok nmX4 hown hw c_a0 n_a0 rfl 0 (by decide) (hts _ tw_327) (fun _ h9 => h9) rfl hin rfl (tyX4_ok 0 (by decide)) rfl rfl (Nat.le_of_ble_eq_true rfl) dX4_init_10 (fun w_5 H locs hw hk c_a0 => ?_)
  have c_a0 : cAt w_5 a0 (.inr (4, [.ref q_1, .int 0, .int 0])) := c_a0
  have hG := hG.set hk (Or.inl rfl)
  have c_q_1 := hk _ _ (Ne.symm ne_a0_q_1) c_q_1
  refine lv_iconst (v := 0) hx hb dX4_init_13 (by decide) ?_
  refine lv_istore_n (lv' := [(1, .int 0), (0, .ref a0)]) hx hb dX4_init_14 rfl hl (by decide) rfl (fun ls hl => ?_)
  refine lv_iload_n hx hb dX4_init_15 rfl (lv_at hl 0 rfl) ?_
  refine lv_bipush (v := 20) hx hb dX4_init_16 (by decide) ?_
  refine lv_icmp_ge (tgt := 40) hx hb dX4_init_18 (by decide) (fun h => absurd h (by decide)) (fun _ => ?_)
  refine lv_aload_n hx hb dX4_init_21 rfl (lv_at hl 1 rfl) ?_
  refine t_getk (ci := 4) (C := RX4) (T := TX4) (N := 3) hx hb hts iX4 hown hw rfl 0 (by decide) (hts _ tw_327) (fun _ h9 => h9) dX4_init_22 (c_a0.fld (k := 0) rfl) ?_
  refine lv_iload_n hx hb dX4_init_25 rfl (lv_at hl 0 rfl) ?_
  refine va_new (ci := 8) (fs := [.int 0, .int 0, .int 0, .int 0, .int 0, .int 0, .int 0, .null, .null, .null, .null, .null, .null]) (C := RX8) (T := TX8) (N := 13) hx hb hts iX8 tyX8 tyX8_ok hown (hts _ tw_324) (hts _ tw_215) (hts _ tw_8) hw.1 hw.2.1 hw.2.2.1 hw.2.2.2.1 hA rfl dfX8 (Nat.le_of_ble_eq_true rfl) (Nat.le_of_ble_eq_true rfl) dX4_init_26 (fun q_6 H hP hD hS => ?_)
  have hf := fr_new hD
  have ne_a0_q_6 : a0 ≠ q_6 := fun z => hf _ (z ▸ c_a0)
  have ne_q_1_q_6 : q_1 ≠ q_6 := fun z => hf _ (z ▸ c_q_1)
  have n_q_6 := hw.2.2.2.2.nn0 hf
  have z_q_6 := hG.fresh c_a0 hf
  have hG := hG.app (w1 := [(q_6, .inr (8, [.int 0, .int 0, .int 0, .int 0, .int 0, .int 0, .int 0, .null, .null, .null, .null, .null, .null]))])
  have c_a0 := c_a0.app (w1 := [(q_6, .inr (8, [.int 0, .int 0, .int 0, .int 0, .int 0, .int 0, .int 0, .null, .null, .null, .null, .null, .null]))])
  have c_q_1 := c_q_1.app (w1 := [(q_6, .inr (8, [.int 0, .int 0, .int 0, .int 0, .int 0, .int 0, .int 0, .null, .null, .null, .null, .null, .null]))])
  have c_q_6 : cAt (w_5 ++ [(q_6, .inr (8, [.int 0, .int 0, .int 0, .int 0, .int 0, .int 0, .int 0, .null, .null, .null, .null, .null, .null]))]) q_6 (.inr (8, [.int 0, .int 0, .int 0, .int 0, .int 0, .int 0, .int 0, .null, .null, .null, .null, .null, .null])) := cAt_last
  have hw : tW (dC, dI) y_4 κ B A s (w_5 ++ [(q_6, .inr (8, [.int 0, .int 0, .int 0, .int 0, .int 0, .int 0, .int 0, .null, .null, .null, .null, .null, .null]))]) H locs := ⟨hw.1, hP, hD, hS, hw.2.2.2.2.appT SubT.rf⟩
  clear hf hP hD hS
  generalize (w_5 ++ [(q_6, .inr (8, [.int 0, .int 0, .int 0, .int 0, .int 0, .int 0, .int 0, .null, .null, .null, .null, .null, .null]))]) = w_7 at hw hG c_q_6 c_a0 c_q_1
  refine lv_dup hx hb dX4_init_29 rfl ?_
  refine t_callK (va_runI (As := []) (rest := [.ref q_6, .int 0, .ref q_1]) ⟨hx, hb, hml, hown, hts⟩ (k_X8_init l dC dI y_4 κ B w_7 hw.2.2.2.2 q_6 n_q_6 c_q_6  H.size) (cwI 0 hts (gU tw_218) rfl rfl rfl (hts _ tw_8) (hts _ tw_326) (hts _ tw_217) rfl (by decide +kernel) ⟨(Nat.le_of_ble_eq_true rfl), (Nat.le_of_ble_eq_true rfl)⟩) ⟨cPre.blind, cPre.use hw.2.1 hw.1 hw.2.2.1 hE⟩ rfl rfl hl.1 rfl (lv_room (Nat.le_of_ble_eq_true rfl)) dX4_init_30 ⟨(Nat.le_of_ble_eq_true rfl), (Nat.le_of_ble_eq_true rfl)⟩) hw hA (fun _ h => h.1) (fun u H locs hp hw => ?_)
  obtain ⟨w_8, κ_9, y_10⟩ := u
  obtain ⟨_, hTs1, hGc, kn_q_6⟩ := hp
  dsimp only at hTs1 hGc kn_q_6 hw
  have hG := hG.call hGc z_q_6
  have hTs := hTs.trans hTs1
  have n_a0 := (hGc.2 _ _ ne_a0_q_6 c_a0).2 n_a0
  have c_a0 := (hGc.2 _ _ ne_a0_q_6 c_a0).1
  have n_q_1 := (hGc.2 _ _ ne_q_1_q_6 c_q_1).2 n_q_1
  have c_q_1 := (hGc.2 _ _ ne_q_1_q_6 c_q_1).1
  have t_q_1 := t_q_1.elim (fun _ h => hTs1 _ _ h)
  have hF_q_1 := hF_q_1.ext hGc.1
  have k_q_6 := kn_q_6
  clear kn_q_6 c_q_6 n_q_6
  refine t_aastU (ci := 8) hx hb hw c_q_1 n_q_1 t_q_1 k_q_6 rfl rfl (show vp_in 0 20 from (by decide : ¬ ((0 : Int32) < 0 ∨ 20 ≤ (0 : Int32).toNatClampNeg))) dX4_init_33 (fun w_11 H locs hw hk c_q_1 => ?_)
  have hG := hG.set hk (Or.inr z_q_1)
  have c_a0 := hk _ _ ne_a0_q_1 c_a0
  have hF_q_1 := hF_q_1.up (x := 0) (by decide) k_q_6
  generalize va_up (fun _ => none) (Int32.toNatClampNeg 0) (some q_6) = f_12 at c_q_1 hF_q_1
  refine lv_iinc (v := 1) (lv' := [(1, .int 1), (0, .ref a0)]) hx hb dX4_init_34 hl (k := 0) rfl (by decide) (by decide) rfl (fun ls hl => ?_)
  refine lv_goto (tgt := 15) hx hb dX4_init_37 (by decide) ?_
  refine lv_iload_n hx hb dX4_init_15 rfl (lv_at hl 0 rfl) ?_
  refine lv_bipush (v := 20) hx hb dX4_init_16 (by decide) ?_
  refine lv_icmp_ge (tgt := 40) hx hb dX4_init_18 (by decide) (fun h => absurd h (by decide)) (fun _ => ?_)
  refine lv_aload_n hx hb dX4_init_21 rfl (lv_at hl 1 rfl) ?_
  refine t_getk (ci := 4) (C := RX4) (T := TX4) (N := 3) hx hb hts iX4 hown hw rfl 0 (by decide) (hts _ tw_327) (fun _ h9 => h9) dX4_init_22 (c_a0.fld (k := 0) rfl) ?_
  refine lv_iload_n hx hb dX4_init_25 rfl (lv_at hl 0 rfl) ?_
  refine va_new (ci := 8) (fs := [.int 0, .int 0, .int 0, .int 0, .int 0, .int 0, .int 0, .null, .null, .null, .null, .null, .null]) (C := RX8) (T := TX8) (N := 13) hx hb hts iX8 tyX8 tyX8_ok hown (hts _ tw_324) (hts _ tw_215) (hts _ tw_8) hw.1 hw.2.1 hw.2.2.1 hw.2.2.2.1 hA rfl dfX8 (Nat.le_of_ble_eq_true rfl) (Nat.le_of_ble_eq_true rfl) dX4_init_26 (fun q_13 H hP hD hS => ?_)
  have hf := fr_new hD
  have ne_a0_q_13 : a0 ≠ q_13 := fun z => hf _ (z ▸ c_a0)
  have ne_q_1_q_13 : q_1 ≠ q_13 := fun z => hf _ (z ▸ c_q_1)
  have n_q_13 := hw.2.2.2.2.nn0 hf
  have z_q_13 := hG.fresh c_a0 hf
  have hG := hG.app (w1 := [(q_13, .inr (8, [.int 0, .int 0, .int 0, .int 0, .int 0, .int 0, .int 0, .null, .null, .null, .null, .null, .null]))])
  have c_a0 := c_a0.app (w1 := [(q_13, .inr (8, [.int 0, .int 0, .int 0, .int 0, .int 0, .int 0, .int 0, .null, .null, .null, .null, .null, .null]))])
  have c_q_1 := c_q_1.app (w1 := [(q_13, .inr (8, [.int 0, .int 0, .int 0, .int 0, .int 0, .int 0, .int 0, .null, .null, .null, .null, .null, .null]))])
  have c_q_13 : cAt (w_11 ++ [(q_13, .inr (8, [.int 0, .int 0, .int 0, .int 0, .int 0, .int 0, .int 0, .null, .null, .null, .null, .null, .null]))]) q_13 (.inr (8, [.int 0, .int 0, .int 0, .int 0, .int 0, .int 0, .int 0, .null, .null, .null, .null, .null, .null])) := cAt_last
  have hw : tW (dC, dI) y_10 κ_9 B A s (w_11 ++ [(q_13, .inr (8, [.int 0, .int 0, .int 0, .int 0, .int 0, .int 0, .int 0, .null, .null, .null, .null, .null, .null]))]) H locs := ⟨hw.1, hP, hD, hS, hw.2.2.2.2.appT SubT.rf⟩
  clear hf hP hD hS
  generalize (w_11 ++ [(q_13, .inr (8, [.int 0, .int 0, .int 0, .int 0, .int 0, .int 0, .int 0, .null, .null, .null, .null, .null, .null]))]) = w_14 at hw hG c_q_13 c_a0 c_q_1
  refine lv_dup hx hb dX4_init_29 rfl ?_
  refine t_callK (va_runI (As := []) (rest := [.ref q_13, .int 1, .ref q_1]) ⟨hx, hb, hml, hown, hts⟩ (k_X8_init l dC dI y_10 κ_9 B w_14 hw.2.2.2.2 q_13 n_q_13 c_q_13  H.size) (cwI 0 hts (gU tw_218) rfl rfl rfl (hts _ tw_8) (hts _ tw_326) (hts _ tw_217) rfl (by decide +kernel) ⟨(Nat.le_of_ble_eq_true rfl), (Nat.le_of_ble_eq_true rfl)⟩) ⟨cPre.blind, cPre.use hw.2.1 hw.1 hw.2.2.1 hE⟩ rfl rfl hl.1 rfl (lv_room (Nat.le_of_ble_eq_true rfl)) dX4_init_30 ⟨(Nat.le_of_ble_eq_true rfl), (Nat.le_of_ble_eq_true rfl)⟩) hw hA (fun _ h => h.1) (fun u H locs hp hw => ?_)
  obtain ⟨w_15, κ_16, y_17⟩ := u
  obtain ⟨_, hTs1, hGc, kn_q_13⟩ := hp
  dsimp only at hTs1 hGc kn_q_13 hw
  have hG := hG.call hGc z_q_13
  have hTs := hTs.trans hTs1
  have k_q_6 := hGc.1 _ _ k_q_6
  have n_a0 := (hGc.2 _ _ ne_a0_q_13 c_a0).2 n_a0
  have c_a0 := (hGc.2 _ _ ne_a0_q_13 c_a0).1
  have n_q_1 := (hGc.2 _ _ ne_q_1_q_13 c_q_1).2 n_q_1
  have c_q_1 := (hGc.2 _ _ ne_q_1_q_13 c_q_1).1
  have t_q_1 := t_q_1.elim (fun _ h => hTs1 _ _ h)
  have hF_q_1 := hF_q_1.ext hGc.1
  have k_q_13 := kn_q_13
  clear kn_q_13 c_q_13 n_q_13
  refine t_aastU (ci := 8) hx hb hw c_q_1 n_q_1 t_q_1 k_q_13 rfl rfl (show vp_in 1 20 from (by decide : ¬ ((1 : Int32) < 0 ∨ 20 ≤ (1 : Int32).toNatClampNeg))) dX4_init_33 (fun w_18 H locs hw hk c_q_1 => ?_)
  have hG := hG.set hk (Or.inr z_q_1)
  have c_a0 := hk _ _ ne_a0_q_1 c_a0
  have hF_q_1 := hF_q_1.up (x := 1) (by decide) k_q_13
  generalize va_up f_12 (Int32.toNatClampNeg 1) (some q_13) = f_19 at c_q_1 hF_q_1
  refine lv_iinc (v := 2) (lv' := [(1, .int 2), (0, .ref a0)]) hx hb dX4_init_34 hl (k := 0) rfl (by decide) (by decide) rfl (fun ls hl => ?_)
  refine lv_goto (tgt := 15) hx hb dX4_init_37 (by decide) ?_
  refine lv_iload_n hx hb dX4_init_15 rfl (lv_at hl 0 rfl) ?_
  refine lv_bipush (v := 20) hx hb dX4_init_16 (by decide) ?_
  refine lv_icmp_ge (tgt := 40) hx hb dX4_init_18 (by decide) (fun h => absurd h (by decide)) (fun _ => ?_)
  refine lv_aload_n hx hb dX4_init_21 rfl (lv_at hl 1 rfl) ?_
  refine t_getk (ci := 4) (C := RX4) (T := TX4) (N := 3) hx hb hts iX4 hown hw rfl 0 (by decide) (hts _ tw_327) (fun _ h9 => h9) dX4_init_22 (c_a0.fld (k := 0) rfl) ?_
  refine lv_iload_n hx hb dX4_init_25 rfl (lv_at hl 0 rfl) ?_
  refine va_new (ci := 8) (fs := [.int 0, .int 0, .int 0, .int 0, .int 0, .int 0, .int 0, .null, .null, .null, .null, .null, .null]) (C := RX8) (T := TX8) (N := 13) hx hb hts iX8 tyX8 tyX8_ok hown (hts _ tw_324) (hts _ tw_215) (hts _ tw_8) hw.1 hw.2.1 hw.2.2.1 hw.2.2.2.1 hA rfl dfX8 (Nat.le_of_ble_eq_true rfl) (Nat.le_of_ble_eq_true rfl) dX4_init_26 (fun q_20 H hP hD hS => ?_)
  have hf := fr_new hD
  have ne_a0_q_20 : a0 ≠ q_20 := fun z => hf _ (z ▸ c_a0)
  have ne_q_1_q_20 : q_1 ≠ q_20 := fun z => hf _ (z ▸ c_q_1)
  have n_q_20 := hw.2.2.2.2.nn0 hf
  have z_q_20 := hG.fresh c_a0 hf
  have hG := hG.app (w1 := [(q_20, .inr (8, [.int 0, .int 0, .int 0, .int 0, .int 0, .int 0, .int 0, .null, .null, .null, .null, .null, .null]))])
  have c_a0 := c_a0.app (w1 := [(q_20, .inr (8, [.int 0, .int 0, .int 0, .int 0, .int 0, .int 0, .int 0, .null, .null, .null, .null, .null, .null]))])
  have c_q_1 := c_q_1.app (w1 := [(q_20, .inr (8, [.int 0, .int 0, .int 0, .int 0, .int 0, .int 0, .int 0, .null, .null, .null, .null, .null, .null]))])
  have c_q_20 : cAt (w_18 ++ [(q_20, .inr (8, [.int 0, .int 0, .int 0, .int 0, .int 0, .int 0, .int 0, .null, .null, .null, .null, .null, .null]))]) q_20 (.inr (8, [.int 0, .int 0, .int 0, .int 0, .int 0, .int 0, .int 0, .null, .null, .null, .null, .null, .null])) := cAt_last
  have hw : tW (dC, dI) y_17 κ_16 B A s (w_18 ++ [(q_20, .inr (8, [.int 0, .int 0, .int 0, .int 0, .int 0, .int 0, .int 0, .null, .null, .null, .null, .null, .null]))]) H locs := ⟨hw.1, hP, hD, hS, hw.2.2.2.2.appT SubT.rf⟩
  clear hf hP hD hS
  generalize (w_18 ++ [(q_20, .inr (8, [.int 0, .int 0, .int 0, .int 0, .int 0, .int 0, .int 0, .null, .null, .null, .null, .null, .null]))]) = w_21 at hw hG c_q_20 c_a0 c_q_1
  refine lv_dup hx hb dX4_init_29 rfl ?_
  refine t_callK (va_runI (As := []) (rest := [.ref q_20, .int 2, .ref q_1]) ⟨hx, hb, hml, hown, hts⟩ (k_X8_init l dC dI y_17 κ_16 B w_21 hw.2.2.2.2 q_20 n_q_20 c_q_20  H.size) (cwI 0 hts (gU tw_218) rfl rfl rfl (hts _ tw_8) (hts _ tw_326) (hts _ tw_217) rfl (by decide +kernel) ⟨(Nat.le_of_ble_eq_true rfl), (Nat.le_of_ble_eq_true rfl)⟩) ⟨cPre.blind, cPre.use hw.2.1 hw.1 hw.2.2.1 hE⟩ rfl rfl hl.1 rfl (lv_room (Nat.le_of_ble_eq_true rfl)) dX4_init_30 ⟨(Nat.le_of_ble_eq_true rfl), (Nat.le_of_ble_eq_true rfl)⟩) hw hA (fun _ h => h.1) (fun u H locs hp hw => ?_)
  obtain ⟨w_22, κ_23, y_24⟩ := u
  obtain ⟨_, hTs1, hGc, kn_q_20⟩ := hp
  dsimp only at hTs1 hGc kn_q_20 hw
  have hG := hG.call hGc z_q_20
  have hTs := hTs.trans hTs1
  have k_q_6 := hGc.1 _ _ k_q_6
  have k_q_13 := hGc.1 _ _ k_q_13
  have n_a0 := (hGc.2 _ _ ne_a0_q_20 c_a0).2 n_a0
  have c_a0 := (hGc.2 _ _ ne_a0_q_20 c_a0).1
  have n_q_1 := (hGc.2 _ _ ne_q_1_q_20 c_q_1).2 n_q_1
  have c_q_1 := (hGc.2 _ _ ne_q_1_q_20 c_q_1).1
  have t_q_1 := t_q_1.elim (fun _ h => hTs1 _ _ h)
  have hF_q_1 := hF_q_1.ext hGc.1
  have k_q_20 := kn_q_20
  clear kn_q_20 c_q_20 n_q_20
  refine t_aastU (ci := 8) hx hb hw c_q_1 n_q_1 t_q_1 k_q_20 rfl rfl (show vp_in 2 20 from (by decide : ¬ ((2 : Int32) < 0 ∨ 20 ≤ (2 : Int32).toNatClampNeg))) dX4_init_33 (fun w_25 H locs hw hk c_q_1 => ?_)
  have hG := hG.set hk (Or.inr z_q_1)
  have c_a0 := hk _ _ ne_a0_q_1 c_a0
  have hF_q_1 := hF_q_1.up (x := 2) (by decide) k_q_20
  generalize va_up f_19 (Int32.toNatClampNeg 2) (some q_20) = f_26 at c_q_1 hF_q_1
  refine lv_iinc (v := 3) (lv' := [(1, .int 3), (0, .ref a0)]) hx hb dX4_init_34 hl (k := 0) rfl (by decide) (by decide) rfl (fun ls hl => ?_)
  refine lv_goto (tgt := 15) hx hb dX4_init_37 (by decide) ?_
  refine lv_iload_n hx hb dX4_init_15 rfl (lv_at hl 0 rfl) ?_
  refine lv_bipush (v := 20) hx hb dX4_init_16 (by decide) ?_
  refine lv_icmp_ge (tgt := 40) hx hb dX4_init_18 (by decide) (fun h => absurd h (by decide)) (fun _ => ?_)
  refine lv_aload_n hx hb dX4_init_21 rfl (lv_at hl 1 rfl) ?_
  refine t_getk (ci := 4) (C := RX4) (T := TX4) (N := 3) hx hb hts iX4 hown hw rfl 0 (by decide) (hts _ tw_327) (fun _ h9 => h9) dX4_init_22 (c_a0.fld (k := 0) rfl) ?_
  refine lv_iload_n hx hb dX4_init_25 rfl (lv_at hl 0 rfl) ?_
  refine va_new (ci := 8) (fs := [.int 0, .int 0, .int 0, .int 0, .int 0, .int 0, .int 0, .null, .null, .null, .null, .null, .null]) (C := RX8) (T := TX8) (N := 13) hx hb hts iX8 tyX8 tyX8_ok hown (hts _ tw_324) (hts _ tw_215) (hts _ tw_8) hw.1 hw.2.1 hw.2.2.1 hw.2.2.2.1 hA rfl dfX8 (Nat.le_of_ble_eq_true rfl) (Nat.le_of_ble_eq_true rfl) dX4_init_26 (fun q_27 H hP hD hS => ?_)
  have hf := fr_new hD
  have ne_a0_q_27 : a0 ≠ q_27 := fun z => hf _ (z ▸ c_a0)
  have ne_q_1_q_27 : q_1 ≠ q_27 := fun z => hf _ (z ▸ c_q_1)
  have n_q_27 := hw.2.2.2.2.nn0 hf
  have z_q_27 := hG.fresh c_a0 hf
  have hG := hG.app (w1 := [(q_27, .inr (8, [.int 0, .int 0, .int 0, .int 0, .int 0, .int 0, .int 0, .null, .null, .null, .null, .null, .null]))])
  have c_a0 := c_a0.app (w1 := [(q_27, .inr (8, [.int 0, .int 0, .int 0, .int 0, .int 0, .int 0, .int 0, .null, .null, .null, .null, .null, .null]))])
  have c_q_1 := c_q_1.app (w1 := [(q_27, .inr (8, [.int 0, .int 0, .int 0, .int 0, .int 0, .int 0, .int 0, .null, .null, .null, .null, .null, .null]))])
  have c_q_27 : cAt (w_25 ++ [(q_27, .inr (8, [.int 0, .int 0, .int 0, .int 0, .int 0, .int 0, .int 0, .null, .null, .null, .null, .null, .null]))]) q_27 (.inr (8, [.int 0, .int 0, .int 0, .int 0, .int 0, .int 0, .int 0, .null, .null, .null, .null, .null, .null])) := cAt_last
  have hw : tW (dC, dI) y_24 κ_23 B A s (w_25 ++ [(q_27, .inr (8, [.int 0, .int 0, .int 0, .int 0, .int 0, .int 0, .int 0, .null, .null, .null, .null, .null, .null]))]) H locs := ⟨hw.1, hP, hD, hS, hw.2.2.2.2.appT SubT.rf⟩
  clear hf hP hD hS
  generalize (w_25 ++ [(q_27, .inr (8, [.int 0, .int 0, .int 0, .int 0, .int 0, .int 0, .int 0, .null, .null, .null, .null, .null, .null]))]) = w_28 at hw hG c_q_27 c_a0 c_q_1
  refine lv_dup hx hb dX4_init_29 rfl ?_
  refine t_callK (va_runI (As := []) (rest := [.ref q_27, .int 3, .ref q_1]) ⟨hx, hb, hml, hown, hts⟩ (k_X8_init l dC dI y_24 κ_23 B w_28 hw.2.2.2.2 q_27 n_q_27 c_q_27  H.size) (cwI 0 hts (gU tw_218) rfl rfl rfl (hts _ tw_8) (hts _ tw_326) (hts _ tw_217) rfl (by decide +kernel) ⟨(Nat.le_of_ble_eq_true rfl), (Nat.le_of_ble_eq_true rfl)⟩) ⟨cPre.blind, cPre.use hw.2.1 hw.1 hw.2.2.1 hE⟩ rfl rfl hl.1 rfl (lv_room (Nat.le_of_ble_eq_true rfl)) dX4_init_30 ⟨(Nat.le_of_ble_eq_true rfl), (Nat.le_of_ble_eq_true rfl)⟩) hw hA (fun _ h => h.1) (fun u H locs hp hw => ?_)
  obtain ⟨w_29, κ_30, y_31⟩ := u
  obtain ⟨_, hTs1, hGc, kn_q_27⟩ := hp
  dsimp only at hTs1 hGc kn_q_27 hw
  have hG := hG.call hGc z_q_27
  have hTs := hTs.trans hTs1
  have k_q_6 := hGc.1 _ _ k_q_6
  have k_q_13 := hGc.1 _ _ k_q_13
  have k_q_20 := hGc.1 _ _ k_q_20
  have n_a0 := (hGc.2 _ _ ne_a0_q_27 c_a0).2 n_a0
  have c_a0 := (hGc.2 _ _ ne_a0_q_27 c_a0).1
  have n_q_1 := (hGc.2 _ _ ne_q_1_q_27 c_q_1).2 n_q_1
  have c_q_1 := (hGc.2 _ _ ne_q_1_q_27 c_q_1).1
  have t_q_1 := t_q_1.elim (fun _ h => hTs1 _ _ h)
  have hF_q_1 := hF_q_1.ext hGc.1
  have k_q_27 := kn_q_27
  clear kn_q_27 c_q_27 n_q_27
  refine t_aastU (ci := 8) hx hb hw c_q_1 n_q_1 t_q_1 k_q_27 rfl rfl (show vp_in 3 20 from (by decide : ¬ ((3 : Int32) < 0 ∨ 20 ≤ (3 : Int32).toNatClampNeg))) dX4_init_33 (fun w_32 H locs hw hk c_q_1 => ?_)
  have hG := hG.set hk (Or.inr z_q_1)
  have c_a0 := hk _ _ ne_a0_q_1 c_a0
  have hF_q_1 := hF_q_1.up (x := 3) (by decide) k_q_27
  generalize va_up f_26 (Int32.toNatClampNeg 3) (some q_27) = f_33 at c_q_1 hF_q_1
  refine lv_iinc (v := 4) (lv' := [(1, .int 4), (0, .ref a0)]) hx hb dX4_init_34 hl (k := 0) rfl (by decide) (by decide) rfl (fun ls hl => ?_)
  refine lv_goto (tgt := 15) hx hb dX4_init_37 (by decide) ?_
  refine lv_iload_n hx hb dX4_init_15 rfl (lv_at hl 0 rfl) ?_
  refine lv_bipush (v := 20) hx hb dX4_init_16 (by decide) ?_
  refine lv_icmp_ge (tgt := 40) hx hb dX4_init_18 (by decide) (fun h => absurd h (by decide)) (fun _ => ?_)
  refine lv_aload_n hx hb dX4_init_21 rfl (lv_at hl 1 rfl) ?_
  refine t_getk (ci := 4) (C := RX4) (T := TX4) (N := 3) hx hb hts iX4 hown hw rfl 0 (by decide) (hts _ tw_327) (fun _ h9 => h9) dX4_init_22 (c_a0.fld (k := 0) rfl) ?_
  refine lv_iload_n hx hb dX4_init_25 rfl (lv_at hl 0 rfl) ?_
  refine va_new (ci := 8) (fs := [.int 0, .int 0, .int 0, .int 0, .int 0, .int 0, .int 0, .null, .null, .null, .null, .null, .null]) (C := RX8) (T := TX8) (N := 13) hx hb hts iX8 tyX8 tyX8_ok hown (hts _ tw_324) (hts _ tw_215) (hts _ tw_8) hw.1 hw.2.1 hw.2.2.1 hw.2.2.2.1 hA rfl dfX8 (Nat.le_of_ble_eq_true rfl) (Nat.le_of_ble_eq_true rfl) dX4_init_26 (fun q_34 H hP hD hS => ?_)
  have hf := fr_new hD
  have ne_a0_q_34 : a0 ≠ q_34 := fun z => hf _ (z ▸ c_a0)
  have ne_q_1_q_34 : q_1 ≠ q_34 := fun z => hf _ (z ▸ c_q_1)
  have n_q_34 := hw.2.2.2.2.nn0 hf
  have z_q_34 := hG.fresh c_a0 hf
  have hG := hG.app (w1 := [(q_34, .inr (8, [.int 0, .int 0, .int 0, .int 0, .int 0, .int 0, .int 0, .null, .null, .null, .null, .null, .null]))])
  have c_a0 := c_a0.app (w1 := [(q_34, .inr (8, [.int 0, .int 0, .int 0, .int 0, .int 0, .int 0, .int 0, .null, .null, .null, .null, .null, .null]))])
  have c_q_1 := c_q_1.app (w1 := [(q_34, .inr (8, [.int 0, .int 0, .int 0, .int 0, .int 0, .int 0, .int 0, .null, .null, .null, .null, .null, .null]))])
  have c_q_34 : cAt (w_32 ++ [(q_34, .inr (8, [.int 0, .int 0, .int 0, .int 0, .int 0, .int 0, .int 0, .null, .null, .null, .null, .null, .null]))]) q_34 (.inr (8, [.int 0, .int 0, .int 0, .int 0, .int 0, .int 0, .int 0, .null, .null, .null, .null, .null, .null])) := cAt_last
  have hw : tW (dC, dI) y_31 κ_30 B A s (w_32 ++ [(q_34, .inr (8, [.int 0, .int 0, .int 0, .int 0, .int 0, .int 0, .int 0, .null, .null, .null, .null, .null, .null]))]) H locs := ⟨hw.1, hP, hD, hS, hw.2.2.2.2.appT SubT.rf⟩
  clear hf hP hD hS
  generalize (w_32 ++ [(q_34, .inr (8, [.int 0, .int 0, .int 0, .int 0, .int 0, .int 0, .int 0, .null, .null, .null, .null, .null, .null]))]) = w_35 at hw hG c_q_34 c_a0 c_q_1
  refine lv_dup hx hb dX4_init_29 rfl ?_
  refine t_callK (va_runI (As := []) (rest := [.ref q_34, .int 4, .ref q_1]) ⟨hx, hb, hml, hown, hts⟩ (k_X8_init l dC dI y_31 κ_30 B w_35 hw.2.2.2.2 q_34 n_q_34 c_q_34  H.size) (cwI 0 hts (gU tw_218) rfl rfl rfl (hts _ tw_8) (hts _ tw_326) (hts _ tw_217) rfl (by decide +kernel) ⟨(Nat.le_of_ble_eq_true rfl), (Nat.le_of_ble_eq_true rfl)⟩) ⟨cPre.blind, cPre.use hw.2.1 hw.1 hw.2.2.1 hE⟩ rfl rfl hl.1 rfl (lv_room (Nat.le_of_ble_eq_true rfl)) dX4_init_30 ⟨(Nat.le_of_ble_eq_true rfl), (Nat.le_of_ble_eq_true rfl)⟩) hw hA (fun _ h => h.1) (fun u H locs hp hw => ?_)
  obtain ⟨w_36, κ_37, y_38⟩ := u
  obtain ⟨_, hTs1, hGc, kn_q_34⟩ := hp
  dsimp only at hTs1 hGc kn_q_34 hw
  have hG := hG.call hGc z_q_34
  have hTs := hTs.trans hTs1
  have k_q_6 := hGc.1 _ _ k_q_6
  have k_q_13 := hGc.1 _ _ k_q_13
  have k_q_20 := hGc.1 _ _ k_q_20
  have k_q_27 := hGc.1 _ _ k_q_27
  have n_a0 := (hGc.2 _ _ ne_a0_q_34 c_a0).2 n_a0
  have c_a0 := (hGc.2 _ _ ne_a0_q_34 c_a0).1
  have n_q_1 := (hGc.2 _ _ ne_q_1_q_34 c_q_1).2 n_q_1
  have c_q_1 := (hGc.2 _ _ ne_q_1_q_34 c_q_1).1
  have t_q_1 := t_q_1.elim (fun _ h => hTs1 _ _ h)
  have hF_q_1 := hF_q_1.ext hGc.1
  have k_q_34 := kn_q_34
  clear kn_q_34 c_q_34 n_q_34
  refine t_aastU (ci := 8) hx hb hw c_q_1 n_q_1 t_q_1 k_q_34 rfl rfl (show vp_in 4 20 from (by decide : ¬ ((4 : Int32) < 0 ∨ 20 ≤ (4 : Int32).toNatClampNeg))) dX4_init_33 (fun w_39 H locs hw hk c_q_1 => ?_)
  have hG := hG.set hk (Or.inr z_q_1)
  have c_a0 := hk _ _ ne_a0_q_1 c_a0
  have hF_q_1 := hF_q_1.up (x := 4) (by decide) k_q_34
  generalize va_up f_33 (Int32.toNatClampNeg 4) (some q_34) = f_40 at c_q_1 hF_q_1
  refine lv_iinc (v := 5) (lv' := [(1, .int 5), (0, .ref a0)]) hx hb dX4_init_34 hl (k := 0) rfl (by decide) (by decide) rfl (fun ls hl => ?_)
  refine lv_goto (tgt := 15) hx hb dX4_init_37 (by decide) ?_
  refine lv_iload_n hx hb dX4_init_15 rfl (lv_at hl 0 rfl) ?_
  refine lv_bipush (v := 20) hx hb dX4_init_16 (by decide) ?_
  refine lv_icmp_ge (tgt := 40) hx hb dX4_init_18 (by decide) (fun h => absurd h (by decide)) (fun _ => ?_)
  refine lv_aload_n hx hb dX4_init_21 rfl (lv_at hl 1 rfl) ?_
  refine t_getk (ci := 4) (C := RX4) (T := TX4) (N := 3) hx hb hts iX4 hown hw rfl 0 (by decide) (hts _ tw_327) (fun _ h9 => h9) dX4_init_22 (c_a0.fld (k := 0) rfl) ?_
  refine lv_iload_n hx hb dX4_init_25 rfl (lv_at hl 0 rfl) ?_
  refine va_new (ci := 8) (fs := [.int 0, .int 0, .int 0, .int 0, .int 0, .int 0, .int 0, .null, .null, .null, .null, .null, .null]) (C := RX8) (T := TX8) (N := 13) hx hb hts iX8 tyX8 tyX8_ok hown (hts _ tw_324) (hts _ tw_215) (hts _ tw_8) hw.1 hw.2.1 hw.2.2.1 hw.2.2.2.1 hA rfl dfX8 (Nat.le_of_ble_eq_true rfl) (Nat.le_of_ble_eq_true rfl) dX4_init_26 (fun q_41 H hP hD hS => ?_)
  have hf := fr_new hD
  have ne_a0_q_41 : a0 ≠ q_41 := fun z => hf _ (z ▸ c_a0)
  have ne_q_1_q_41 : q_1 ≠ q_41 := fun z => hf _ (z ▸ c_q_1)
  have n_q_41 := hw.2.2.2.2.nn0 hf
  have z_q_41 := hG.fresh c_a0 hf
  have hG := hG.app (w1 := [(q_41, .inr (8, [.int 0, .int 0, .int 0, .int 0, .int 0, .int 0, .int 0, .null, .null, .null, .null, .null, .null]))])
  have c_a0 := c_a0.app (w1 := [(q_41, .inr (8, [.int 0, .int 0, .int 0, .int 0, .int 0, .int 0, .int 0, .null, .null, .null, .null, .null, .null]))])
  have c_q_1 := c_q_1.app (w1 := [(q_41, .inr (8, [.int 0, .int 0, .int 0, .int 0, .int 0, .int 0, .int 0, .null, .null, .null, .null, .null, .null]))])
  have c_q_41 : cAt (w_39 ++ [(q_41, .inr (8, [.int 0, .int 0, .int 0, .int 0, .int 0, .int 0, .int 0, .null, .null, .null, .null, .null, .null]))]) q_41 (.inr (8, [.int 0, .int 0, .int 0, .int 0, .int 0, .int 0, .int 0, .null, .null, .null, .null, .null, .null])) := cAt_last
  have hw : tW (dC, dI) y_38 κ_37 B A s (w_39 ++ [(q_41, .inr (8, [.int 0, .int 0, .int 0, .int 0, .int 0, .int 0, .int 0, .null, .null, .null, .null, .null, .null]))]) H locs := ⟨hw.1, hP, hD, hS, hw.2.2.2.2.appT SubT.rf⟩
  clear hf hP hD hS
  generalize (w_39 ++ [(q_41, .inr (8, [.int 0, .int 0, .int 0, .int 0, .int 0, .int 0, .int 0, .null, .null, .null, .null, .null, .null]))]) = w_42 at hw hG c_q_41 c_a0 c_q_1
  refine lv_dup hx hb dX4_init_29 rfl ?_
  refine t_callK (va_runI (As := []) (rest := [.ref q_41, .int 5, .ref q_1]) ⟨hx, hb, hml, hown, hts⟩ (k_X8_init l dC dI y_38 κ_37 B w_42 hw.2.2.2.2 q_41 n_q_41 c_q_41  H.size) (cwI 0 hts (gU tw_218) rfl rfl rfl (hts _ tw_8) (hts _ tw_326) (hts _ tw_217) rfl (by decide +kernel) ⟨(Nat.le_of_ble_eq_true rfl), (Nat.le_of_ble_eq_true rfl)⟩) ⟨cPre.blind, cPre.use hw.2.1 hw.1 hw.2.2.1 hE⟩ rfl rfl hl.1 rfl (lv_room (Nat.le_of_ble_eq_true rfl)) dX4_init_30 ⟨(Nat.le_of_ble_eq_true rfl), (Nat.le_of_ble_eq_true rfl)⟩) hw hA (fun _ h => h.1) (fun u H locs hp hw => ?_)
  obtain ⟨w_43, κ_44, y_45⟩ := u
  obtain ⟨_, hTs1, hGc, kn_q_41⟩ := hp
  dsimp only at hTs1 hGc kn_q_41 hw
  have hG := hG.call hGc z_q_41
  have hTs := hTs.trans hTs1
  have k_q_6 := hGc.1 _ _ k_q_6
  have k_q_13 := hGc.1 _ _ k_q_13
  have k_q_20 := hGc.1 _ _ k_q_20
  have k_q_27 := hGc.1 _ _ k_q_27
  have k_q_34 := hGc.1 _ _ k_q_34
  have n_a0 := (hGc.2 _ _ ne_a0_q_41 c_a0).2 n_a0
  have c_a0 := (hGc.2 _ _ ne_a0_q_41 c_a0).1
  have n_q_1 := (hGc.2 _ _ ne_q_1_q_41 c_q_1).2 n_q_1
  have c_q_1 := (hGc.2 _ _ ne_q_1_q_41 c_q_1).1
  have t_q_1 := t_q_1.elim (fun _ h => hTs1 _ _ h)
  have hF_q_1 := hF_q_1.ext hGc.1
  have k_q_41 := kn_q_41
  clear kn_q_41 c_q_41 n_q_41
  refine t_aastU (ci := 8) hx hb hw c_q_1 n_q_1 t_q_1 k_q_41 rfl rfl (show vp_in 5 20 from (by decide : ¬ ((5 : Int32) < 0 ∨ 20 ≤ (5 : Int32).toNatClampNeg))) dX4_init_33 (fun w_46 H locs hw hk c_q_1 => ?_)
  have hG := hG.set hk (Or.inr z_q_1)
  have c_a0 := hk _ _ ne_a0_q_1 c_a0
  have hF_q_1 := hF_q_1.up (x := 5) (by decide) k_q_41
  generalize va_up f_40 (Int32.toNatClampNeg 5) (some q_41) = f_47 at c_q_1 hF_q_1
  refine lv_iinc (v := 6) (lv' := [(1, .int 6), (0, .ref a0)]) hx hb dX4_init_34 hl (k := 0) rfl (by decide) (by decide) rfl (fun ls hl => ?_)
  refine lv_goto (tgt := 15) hx hb dX4_init_37 (by decide) ?_
  refine lv_iload_n hx hb dX4_init_15 rfl (lv_at hl 0 rfl) ?_
  refine lv_bipush (v := 20) hx hb dX4_init_16 (by decide) ?_
  refine lv_icmp_ge (tgt := 40) hx hb dX4_init_18 (by decide) (fun h => absurd h (by decide)) (fun _ => ?_)
  refine lv_aload_n hx hb dX4_init_21 rfl (lv_at hl 1 rfl) ?_
  refine t_getk (ci := 4) (C := RX4) (T := TX4) (N := 3) hx hb hts iX4 hown hw rfl 0 (by decide) (hts _ tw_327) (fun _ h9 => h9) dX4_init_22 (c_a0.fld (k := 0) rfl) ?_
  refine lv_iload_n hx hb dX4_init_25 rfl (lv_at hl 0 rfl) ?_
  refine va_new (ci := 8) (fs := [.int 0, .int 0, .int 0, .int 0, .int 0, .int 0, .int 0, .null, .null, .null, .null, .null, .null]) (C := RX8) (T := TX8) (N := 13) hx hb hts iX8 tyX8 tyX8_ok hown (hts _ tw_324) (hts _ tw_215) (hts _ tw_8) hw.1 hw.2.1 hw.2.2.1 hw.2.2.2.1 hA rfl dfX8 (Nat.le_of_ble_eq_true rfl) (Nat.le_of_ble_eq_true rfl) dX4_init_26 (fun q_48 H hP hD hS => ?_)
  have hf := fr_new hD
  have ne_a0_q_48 : a0 ≠ q_48 := fun z => hf _ (z ▸ c_a0)
  have ne_q_1_q_48 : q_1 ≠ q_48 := fun z => hf _ (z ▸ c_q_1)
  have n_q_48 := hw.2.2.2.2.nn0 hf
  have z_q_48 := hG.fresh c_a0 hf
  have hG := hG.app (w1 := [(q_48, .inr (8, [.int 0, .int 0, .int 0, .int 0, .int 0, .int 0, .int 0, .null, .null, .null, .null, .null, .null]))])
  have c_a0 := c_a0.app (w1 := [(q_48, .inr (8, [.int 0, .int 0, .int 0, .int 0, .int 0, .int 0, .int 0, .null, .null, .null, .null, .null, .null]))])
  have c_q_1 := c_q_1.app (w1 := [(q_48, .inr (8, [.int 0, .int 0, .int 0, .int 0, .int 0, .int 0, .int 0, .null, .null, .null, .null, .null, .null]))])
  have c_q_48 : cAt (w_46 ++ [(q_48, .inr (8, [.int 0, .int 0, .int 0, .int 0, .int 0, .int 0, .int 0, .null, .null, .null, .null, .null, .null]))]) q_48 (.inr (8, [.int 0, .int 0, .int 0, .int 0, .int 0, .int 0, .int 0, .null, .null, .null, .null, .null, .null])) := cAt_last
  have hw : tW (dC, dI) y_45 κ_44 B A s (w_46 ++ [(q_48, .inr (8, [.int 0, .int 0, .int 0, .int 0, .int 0, .int 0, .int 0, .null, .null, .null, .null, .null, .null]))]) H locs := ⟨hw.1, hP, hD, hS, hw.2.2.2.2.appT SubT.rf⟩
  clear hf hP hD hS
  generalize (w_46 ++ [(q_48, .inr (8, [.int 0, .int 0, .int 0, .int 0, .int 0, .int 0, .int 0, .null, .null, .null, .null, .null, .null]))]) = w_49 at hw hG c_q_48 c_a0 c_q_1
  refine lv_dup hx hb dX4_init_29 rfl ?_
  refine t_callK (va_runI (As := []) (rest := [.ref q_48, .int 6, .ref q_1]) ⟨hx, hb, hml, hown, hts⟩ (k_X8_init l dC dI y_45 κ_44 B w_49 hw.2.2.2.2 q_48 n_q_48 c_q_48  H.size) (cwI 0 hts (gU tw_218) rfl rfl rfl (hts _ tw_8) (hts _ tw_326) (hts _ tw_217) rfl (by decide +kernel) ⟨(Nat.le_of_ble_eq_true rfl), (Nat.le_of_ble_eq_true rfl)⟩) ⟨cPre.blind, cPre.use hw.2.1 hw.1 hw.2.2.1 hE⟩ rfl rfl hl.1 rfl (lv_room (Nat.le_of_ble_eq_true rfl)) dX4_init_30 ⟨(Nat.le_of_ble_eq_true rfl), (Nat.le_of_ble_eq_true rfl)⟩) hw hA (fun _ h => h.1) (fun u H locs hp hw => ?_)
  obtain ⟨w_50, κ_51, y_52⟩ := u
  obtain ⟨_, hTs1, hGc, kn_q_48⟩ := hp
  dsimp only at hTs1 hGc kn_q_48 hw
  have hG := hG.call hGc z_q_48
  have hTs := hTs.trans hTs1
  have k_q_6 := hGc.1 _ _ k_q_6
  have k_q_13 := hGc.1 _ _ k_q_13
  have k_q_20 := hGc.1 _ _ k_q_20
  have k_q_27 := hGc.1 _ _ k_q_27
  have k_q_34 := hGc.1 _ _ k_q_34
  have k_q_41 := hGc.1 _ _ k_q_41
  have n_a0 := (hGc.2 _ _ ne_a0_q_48 c_a0).2 n_a0
  have c_a0 := (hGc.2 _ _ ne_a0_q_48 c_a0).1
  have n_q_1 := (hGc.2 _ _ ne_q_1_q_48 c_q_1).2 n_q_1
  have c_q_1 := (hGc.2 _ _ ne_q_1_q_48 c_q_1).1
  have t_q_1 := t_q_1.elim (fun _ h => hTs1 _ _ h)
  have hF_q_1 := hF_q_1.ext hGc.1
  have k_q_48 := kn_q_48
  clear kn_q_48 c_q_48 n_q_48
  refine t_aastU (ci := 8) hx hb hw c_q_1 n_q_1 t_q_1 k_q_48 rfl rfl (show vp_in 6 20 from (by decide : ¬ ((6 : Int32) < 0 ∨ 20 ≤ (6 : Int32).toNatClampNeg))) dX4_init_33 (fun w_53 H locs hw hk c_q_1 => ?_)
  have hG := hG.set hk (Or.inr z_q_1)
  have c_a0 := hk _ _ ne_a0_q_1 c_a0
  have hF_q_1 := hF_q_1.up (x := 6) (by decide) k_q_48
  generalize va_up f_47 (Int32.toNatClampNeg 6) (some q_48) = f_54 at c_q_1 hF_q_1
  refine lv_iinc (v := 7) (lv' := [(1, .int 7), (0, .ref a0)]) hx hb dX4_init_34 hl (k := 0) rfl (by decide) (by decide) rfl (fun ls hl => ?_)
  refine lv_goto (tgt := 15) hx hb dX4_init_37 (by decide) ?_
  refine lv_iload_n hx hb dX4_init_15 rfl (lv_at hl 0 rfl) ?_
  refine lv_bipush (v := 20) hx hb dX4_init_16 (by decide) ?_
  refine lv_icmp_ge (tgt := 40) hx hb dX4_init_18 (by decide) (fun h => absurd h (by decide)) (fun _ => ?_)
  refine lv_aload_n hx hb dX4_init_21 rfl (lv_at hl 1 rfl) ?_
  refine t_getk (ci := 4) (C := RX4) (T := TX4) (N := 3) hx hb hts iX4 hown hw rfl 0 (by decide) (hts _ tw_327) (fun _ h9 => h9) dX4_init_22 (c_a0.fld (k := 0) rfl) ?_
  refine lv_iload_n hx hb dX4_init_25 rfl (lv_at hl 0 rfl) ?_
  refine va_new (ci := 8) (fs := [.int 0, .int 0, .int 0, .int 0, .int 0, .int 0, .int 0, .null, .null, .null, .null, .null, .null]) (C := RX8) (T := TX8) (N := 13) hx hb hts iX8 tyX8 tyX8_ok hown (hts _ tw_324) (hts _ tw_215) (hts _ tw_8) hw.1 hw.2.1 hw.2.2.1 hw.2.2.2.1 hA rfl dfX8 (Nat.le_of_ble_eq_true rfl) (Nat.le_of_ble_eq_true rfl) dX4_init_26 (fun q_55 H hP hD hS => ?_)
  have hf := fr_new hD
  have ne_a0_q_55 : a0 ≠ q_55 := fun z => hf _ (z ▸ c_a0)
  have ne_q_1_q_55 : q_1 ≠ q_55 := fun z => hf _ (z ▸ c_q_1)
  have n_q_55 := hw.2.2.2.2.nn0 hf
  have z_q_55 := hG.fresh c_a0 hf
  have hG := hG.app (w1 := [(q_55, .inr (8, [.int 0, .int 0, .int 0, .int 0, .int 0, .int 0, .int 0, .null, .null, .null, .null, .null, .null]))])
  have c_a0 := c_a0.app (w1 := [(q_55, .inr (8, [.int 0, .int 0, .int 0, .int 0, .int 0, .int 0, .int 0, .null, .null, .null, .null, .null, .null]))])
  have c_q_1 := c_q_1.app (w1 := [(q_55, .inr (8, [.int 0, .int 0, .int 0, .int 0, .int 0, .int 0, .int 0, .null, .null, .null, .null, .null, .null]))])
  have c_q_55 : cAt (w_53 ++ [(q_55, .inr (8, [.int 0, .int 0, .int 0, .int 0, .int 0, .int 0, .int 0, .null, .null, .null, .null, .null, .null]))]) q_55 (.inr (8, [.int 0, .int 0, .int 0, .int 0, .int 0, .int 0, .int 0, .null, .null, .null, .null, .null, .null])) := cAt_last
  have hw : tW (dC, dI) y_52 κ_51 B A s (w_53 ++ [(q_55, .inr (8, [.int 0, .int 0, .int 0, .int 0, .int 0, .int 0, .int 0, .null, .null, .null, .null, .null, .null]))]) H locs := ⟨hw.1, hP, hD, hS, hw.2.2.2.2.appT SubT.rf⟩
  clear hf hP hD hS
  generalize (w_53 ++ [(q_55, .inr (8, [.int 0, .int 0, .int 0, .int 0, .int 0, .int 0, .int 0, .null, .null, .null, .null, .null, .null]))]) = w_56 at hw hG c_q_55 c_a0 c_q_1
  refine lv_dup hx hb dX4_init_29 rfl ?_
  refine t_callK (va_runI (As := []) (rest := [.ref q_55, .int 7, .ref q_1]) ⟨hx, hb, hml, hown, hts⟩ (k_X8_init l dC dI y_52 κ_51 B w_56 hw.2.2.2.2 q_55 n_q_55 c_q_55  H.size) (cwI 0 hts (gU tw_218) rfl rfl rfl (hts _ tw_8) (hts _ tw_326) (hts _ tw_217) rfl (by decide +kernel) ⟨(Nat.le_of_ble_eq_true rfl), (Nat.le_of_ble_eq_true rfl)⟩) ⟨cPre.blind, cPre.use hw.2.1 hw.1 hw.2.2.1 hE⟩ rfl rfl hl.1 rfl (lv_room (Nat.le_of_ble_eq_true rfl)) dX4_init_30 ⟨(Nat.le_of_ble_eq_true rfl), (Nat.le_of_ble_eq_true rfl)⟩) hw hA (fun _ h => h.1) (fun u H locs hp hw => ?_)
  obtain ⟨w_57, κ_58, y_59⟩ := u
  obtain ⟨_, hTs1, hGc, kn_q_55⟩ := hp
  dsimp only at hTs1 hGc kn_q_55 hw
  have hG := hG.call hGc z_q_55
  have hTs := hTs.trans hTs1
  have k_q_6 := hGc.1 _ _ k_q_6
  have k_q_13 := hGc.1 _ _ k_q_13
  have k_q_20 := hGc.1 _ _ k_q_20
  have k_q_27 := hGc.1 _ _ k_q_27
  have k_q_34 := hGc.1 _ _ k_q_34
  have k_q_41 := hGc.1 _ _ k_q_41
  have k_q_48 := hGc.1 _ _ k_q_48
  have n_a0 := (hGc.2 _ _ ne_a0_q_55 c_a0).2 n_a0
  have c_a0 := (hGc.2 _ _ ne_a0_q_55 c_a0).1
  have n_q_1 := (hGc.2 _ _ ne_q_1_q_55 c_q_1).2 n_q_1
  have c_q_1 := (hGc.2 _ _ ne_q_1_q_55 c_q_1).1
  have t_q_1 := t_q_1.elim (fun _ h => hTs1 _ _ h)
  have hF_q_1 := hF_q_1.ext hGc.1
  have k_q_55 := kn_q_55
  clear kn_q_55 c_q_55 n_q_55
  refine t_aastU (ci := 8) hx hb hw c_q_1 n_q_1 t_q_1 k_q_55 rfl rfl (show vp_in 7 20 from (by decide : ¬ ((7 : Int32) < 0 ∨ 20 ≤ (7 : Int32).toNatClampNeg))) dX4_init_33 (fun w_60 H locs hw hk c_q_1 => ?_)
  have hG := hG.set hk (Or.inr z_q_1)
  have c_a0 := hk _ _ ne_a0_q_1 c_a0
  have hF_q_1 := hF_q_1.up (x := 7) (by decide) k_q_55
  generalize va_up f_54 (Int32.toNatClampNeg 7) (some q_55) = f_61 at c_q_1 hF_q_1
  refine lv_iinc (v := 8) (lv' := [(1, .int 8), (0, .ref a0)]) hx hb dX4_init_34 hl (k := 0) rfl (by decide) (by decide) rfl (fun ls hl => ?_)
  refine lv_goto (tgt := 15) hx hb dX4_init_37 (by decide) ?_
  refine lv_iload_n hx hb dX4_init_15 rfl (lv_at hl 0 rfl) ?_
  refine lv_bipush (v := 20) hx hb dX4_init_16 (by decide) ?_
  refine lv_icmp_ge (tgt := 40) hx hb dX4_init_18 (by decide) (fun h => absurd h (by decide)) (fun _ => ?_)
  refine lv_aload_n hx hb dX4_init_21 rfl (lv_at hl 1 rfl) ?_
  refine t_getk (ci := 4) (C := RX4) (T := TX4) (N := 3) hx hb hts iX4 hown hw rfl 0 (by decide) (hts _ tw_327) (fun _ h9 => h9) dX4_init_22 (c_a0.fld (k := 0) rfl) ?_
  refine lv_iload_n hx hb dX4_init_25 rfl (lv_at hl 0 rfl) ?_
  refine va_new (ci := 8) (fs := [.int 0, .int 0, .int 0, .int 0, .int 0, .int 0, .int 0, .null, .null, .null, .null, .null, .null]) (C := RX8) (T := TX8) (N := 13) hx hb hts iX8 tyX8 tyX8_ok hown (hts _ tw_324) (hts _ tw_215) (hts _ tw_8) hw.1 hw.2.1 hw.2.2.1 hw.2.2.2.1 hA rfl dfX8 (Nat.le_of_ble_eq_true rfl) (Nat.le_of_ble_eq_true rfl) dX4_init_26 (fun q_62 H hP hD hS => ?_)
  have hf := fr_new hD
  have ne_a0_q_62 : a0 ≠ q_62 := fun z => hf _ (z ▸ c_a0)
  have ne_q_1_q_62 : q_1 ≠ q_62 := fun z => hf _ (z ▸ c_q_1)
  have n_q_62 := hw.2.2.2.2.nn0 hf
  have z_q_62 := hG.fresh c_a0 hf
  have hG := hG.app (w1 := [(q_62, .inr (8, [.int 0, .int 0, .int 0, .int 0, .int 0, .int 0, .int 0, .null, .null, .null, .null, .null, .null]))])
  have c_a0 := c_a0.app (w1 := [(q_62, .inr (8, [.int 0, .int 0, .int 0, .int 0, .int 0, .int 0, .int 0, .null, .null, .null, .null, .null, .null]))])
  have c_q_1 := c_q_1.app (w1 := [(q_62, .inr (8, [.int 0, .int 0, .int 0, .int 0, .int 0, .int 0, .int 0, .null, .null, .null, .null, .null, .null]))])
  have c_q_62 : cAt (w_60 ++ [(q_62, .inr (8, [.int 0, .int 0, .int 0, .int 0, .int 0, .int 0, .int 0, .null, .null, .null, .null, .null, .null]))]) q_62 (.inr (8, [.int 0, .int 0, .int 0, .int 0, .int 0, .int 0, .int 0, .null, .null, .null, .null, .null, .null])) := cAt_last
  have hw : tW (dC, dI) y_59 κ_58 B A s (w_60 ++ [(q_62, .inr (8, [.int 0, .int 0, .int 0, .int 0, .int 0, .int 0, .int 0, .null, .null, .null, .null, .null, .null]))]) H locs := ⟨hw.1, hP, hD, hS, hw.2.2.2.2.appT SubT.rf⟩
  clear hf hP hD hS
  generalize (w_60 ++ [(q_62, .inr (8, [.int 0, .int 0, .int 0, .int 0, .int 0, .int 0, .int 0, .null, .null, .null, .null, .null, .null]))]) = w_63 at hw hG c_q_62 c_a0 c_q_1
  refine lv_dup hx hb dX4_init_29 rfl ?_
  refine t_callK (va_runI (As := []) (rest := [.ref q_62, .int 8, .ref q_1]) ⟨hx, hb, hml, hown, hts⟩ (k_X8_init l dC dI y_59 κ_58 B w_63 hw.2.2.2.2 q_62 n_q_62 c_q_62  H.size) (cwI 0 hts (gU tw_218) rfl rfl rfl (hts _ tw_8) (hts _ tw_326) (hts _ tw_217) rfl (by decide +kernel) ⟨(Nat.le_of_ble_eq_true rfl), (Nat.le_of_ble_eq_true rfl)⟩) ⟨cPre.blind, cPre.use hw.2.1 hw.1 hw.2.2.1 hE⟩ rfl rfl hl.1 rfl (lv_room (Nat.le_of_ble_eq_true rfl)) dX4_init_30 ⟨(Nat.le_of_ble_eq_true rfl), (Nat.le_of_ble_eq_true rfl)⟩) hw hA (fun _ h => h.1) (fun u H locs hp hw => ?_)
  obtain ⟨w_64, κ_65, y_66⟩ := u
  obtain ⟨_, hTs1, hGc, kn_q_62⟩ := hp
  dsimp only at hTs1 hGc kn_q_62 hw
  have hG := hG.call hGc z_q_62
  have hTs := hTs.trans hTs1
  have k_q_6 := hGc.1 _ _ k_q_6
  have k_q_13 := hGc.1 _ _ k_q_13
  have k_q_20 := hGc.1 _ _ k_q_20
  have k_q_27 := hGc.1 _ _ k_q_27
  have k_q_34 := hGc.1 _ _ k_q_34
  have k_q_41 := hGc.1 _ _ k_q_41
  have k_q_48 := hGc.1 _ _ k_q_48
  have k_q_55 := hGc.1 _ _ k_q_55
  have n_a0 := (hGc.2 _ _ ne_a0_q_62 c_a0).2 n_a0
  have c_a0 := (hGc.2 _ _ ne_a0_q_62 c_a0).1
  have n_q_1 := (hGc.2 _ _ ne_q_1_q_62 c_q_1).2 n_q_1
  have c_q_1 := (hGc.2 _ _ ne_q_1_q_62 c_q_1).1
  have t_q_1 := t_q_1.elim (fun _ h => hTs1 _ _ h)
  have hF_q_1 := hF_q_1.ext hGc.1
  have k_q_62 := kn_q_62
  clear kn_q_62 c_q_62 n_q_62
  refine t_aastU (ci := 8) hx hb hw c_q_1 n_q_1 t_q_1 k_q_62 rfl rfl (show vp_in 8 20 from (by decide : ¬ ((8 : Int32) < 0 ∨ 20 ≤ (8 : Int32).toNatClampNeg))) dX4_init_33 (fun w_67 H locs hw hk c_q_1 => ?_)
  have hG := hG.set hk (Or.inr z_q_1)
  have c_a0 := hk _ _ ne_a0_q_1 c_a0
  have hF_q_1 := hF_q_1.up (x := 8) (by decide) k_q_62
  generalize va_up f_61 (Int32.toNatClampNeg 8) (some q_62) = f_68 at c_q_1 hF_q_1
  refine lv_iinc (v := 9) (lv' := [(1, .int 9), (0, .ref a0)]) hx hb dX4_init_34 hl (k := 0) rfl (by decide) (by decide) rfl (fun ls hl => ?_)
  refine lv_goto (tgt := 15) hx hb dX4_init_37 (by decide) ?_
  refine lv_iload_n hx hb dX4_init_15 rfl (lv_at hl 0 rfl) ?_
  refine lv_bipush (v := 20) hx hb dX4_init_16 (by decide) ?_
  refine lv_icmp_ge (tgt := 40) hx hb dX4_init_18 (by decide) (fun h => absurd h (by decide)) (fun _ => ?_)
  refine lv_aload_n hx hb dX4_init_21 rfl (lv_at hl 1 rfl) ?_
  refine t_getk (ci := 4) (C := RX4) (T := TX4) (N := 3) hx hb hts iX4 hown hw rfl 0 (by decide) (hts _ tw_327) (fun _ h9 => h9) dX4_init_22 (c_a0.fld (k := 0) rfl) ?_
  refine lv_iload_n hx hb dX4_init_25 rfl (lv_at hl 0 rfl) ?_
  refine va_new (ci := 8) (fs := [.int 0, .int 0, .int 0, .int 0, .int 0, .int 0, .int 0, .null, .null, .null, .null, .null, .null]) (C := RX8) (T := TX8) (N := 13) hx hb hts iX8 tyX8 tyX8_ok hown (hts _ tw_324) (hts _ tw_215) (hts _ tw_8) hw.1 hw.2.1 hw.2.2.1 hw.2.2.2.1 hA rfl dfX8 (Nat.le_of_ble_eq_true rfl) (Nat.le_of_ble_eq_true rfl) dX4_init_26 (fun q_69 H hP hD hS => ?_)
  have hf := fr_new hD
  have ne_a0_q_69 : a0 ≠ q_69 := fun z => hf _ (z ▸ c_a0)
  have ne_q_1_q_69 : q_1 ≠ q_69 := fun z => hf _ (z ▸ c_q_1)
  have n_q_69 := hw.2.2.2.2.nn0 hf
  have z_q_69 := hG.fresh c_a0 hf
  have hG := hG.app (w1 := [(q_69, .inr (8, [.int 0, .int 0, .int 0, .int 0, .int 0, .int 0, .int 0, .null, .null, .null, .null, .null, .null]))])
  have c_a0 := c_a0.app (w1 := [(q_69, .inr (8, [.int 0, .int 0, .int 0, .int 0, .int 0, .int 0, .int 0, .null, .null, .null, .null, .null, .null]))])
  have c_q_1 := c_q_1.app (w1 := [(q_69, .inr (8, [.int 0, .int 0, .int 0, .int 0, .int 0, .int 0, .int 0, .null, .null, .null, .null, .null, .null]))])
  have c_q_69 : cAt (w_67 ++ [(q_69, .inr (8, [.int 0, .int 0, .int 0, .int 0, .int 0, .int 0, .int 0, .null, .null, .null, .null, .null, .null]))]) q_69 (.inr (8, [.int 0, .int 0, .int 0, .int 0, .int 0, .int 0, .int 0, .null, .null, .null, .null, .null, .null])) := cAt_last
  have hw : tW (dC, dI) y_66 κ_65 B A s (w_67 ++ [(q_69, .inr (8, [.int 0, .int 0, .int 0, .int 0, .int 0, .int 0, .int 0, .null, .null, .null, .null, .null, .null]))]) H locs := ⟨hw.1, hP, hD, hS, hw.2.2.2.2.appT SubT.rf⟩
  clear hf hP hD hS
  generalize (w_67 ++ [(q_69, .inr (8, [.int 0, .int 0, .int 0, .int 0, .int 0, .int 0, .int 0, .null, .null, .null, .null, .null, .null]))]) = w_70 at hw hG c_q_69 c_a0 c_q_1
  refine lv_dup hx hb dX4_init_29 rfl ?_
  refine t_callK (va_runI (As := []) (rest := [.ref q_69, .int 9, .ref q_1]) ⟨hx, hb, hml, hown, hts⟩ (k_X8_init l dC dI y_66 κ_65 B w_70 hw.2.2.2.2 q_69 n_q_69 c_q_69  H.size) (cwI 0 hts (gU tw_218) rfl rfl rfl (hts _ tw_8) (hts _ tw_326) (hts _ tw_217) rfl (by decide +kernel) ⟨(Nat.le_of_ble_eq_true rfl), (Nat.le_of_ble_eq_true rfl)⟩) ⟨cPre.blind, cPre.use hw.2.1 hw.1 hw.2.2.1 hE⟩ rfl rfl hl.1 rfl (lv_room (Nat.le_of_ble_eq_true rfl)) dX4_init_30 ⟨(Nat.le_of_ble_eq_true rfl), (Nat.le_of_ble_eq_true rfl)⟩) hw hA (fun _ h => h.1) (fun u H locs hp hw => ?_)
  obtain ⟨w_71, κ_72, y_73⟩ := u
  obtain ⟨_, hTs1, hGc, kn_q_69⟩ := hp
  dsimp only at hTs1 hGc kn_q_69 hw
  have hG := hG.call hGc z_q_69
  have hTs := hTs.trans hTs1
  have k_q_6 := hGc.1 _ _ k_q_6
  have k_q_13 := hGc.1 _ _ k_q_13
  have k_q_20 := hGc.1 _ _ k_q_20
  have k_q_27 := hGc.1 _ _ k_q_27
  have k_q_34 := hGc.1 _ _ k_q_34
  have k_q_41 := hGc.1 _ _ k_q_41
  have k_q_48 := hGc.1 _ _ k_q_48
  have k_q_55 := hGc.1 _ _ k_q_55
  have k_q_62 := hGc.1 _ _ k_q_62
  have n_a0 := (hGc.2 _ _ ne_a0_q_69 c_a0).2 n_a0
  have c_a0 := (hGc.2 _ _ ne_a0_q_69 c_a0).1
  have n_q_1 := (hGc.2 _ _ ne_q_1_q_69 c_q_1).2 n_q_1
  have c_q_1 := (hGc.2 _ _ ne_q_1_q_69 c_q_1).1
  have t_q_1 := t_q_1.elim (fun _ h => hTs1 _ _ h)
  have hF_q_1 := hF_q_1.ext hGc.1
  have k_q_69 := kn_q_69
  clear kn_q_69 c_q_69 n_q_69
  refine t_aastU (ci := 8) hx hb hw c_q_1 n_q_1 t_q_1 k_q_69 rfl rfl (show vp_in 9 20 from (by decide : ¬ ((9 : Int32) < 0 ∨ 20 ≤ (9 : Int32).toNatClampNeg))) dX4_init_33 (fun w_74 H locs hw hk c_q_1 => ?_)
  have hG := hG.set hk (Or.inr z_q_1)
  have c_a0 := hk _ _ ne_a0_q_1 c_a0
  have hF_q_1 := hF_q_1.up (x := 9) (by decide) k_q_69
  generalize va_up f_68 (Int32.toNatClampNeg 9) (some q_69) = f_75 at c_q_1 hF_q_1
  refine lv_iinc (v := 10) (lv' := [(1, .int 10), (0, .ref a0)]) hx hb dX4_init_34 hl (k := 0) rfl (by decide) (by decide) rfl (fun ls hl => ?_)
  refine lv_goto (tgt := 15) hx hb dX4_init_37 (by decide) ?_
  refine lv_iload_n hx hb dX4_init_15 rfl (lv_at hl 0 rfl) ?_
  refine lv_bipush (v := 20) hx hb dX4_init_16 (by decide) ?_
  refine lv_icmp_ge (tgt := 40) hx hb dX4_init_18 (by decide) (fun h => absurd h (by decide)) (fun _ => ?_)
  refine lv_aload_n hx hb dX4_init_21 rfl (lv_at hl 1 rfl) ?_
  refine t_getk (ci := 4) (C := RX4) (T := TX4) (N := 3) hx hb hts iX4 hown hw rfl 0 (by decide) (hts _ tw_327) (fun _ h9 => h9) dX4_init_22 (c_a0.fld (k := 0) rfl) ?_
  refine lv_iload_n hx hb dX4_init_25 rfl (lv_at hl 0 rfl) ?_
  refine va_new (ci := 8) (fs := [.int 0, .int 0, .int 0, .int 0, .int 0, .int 0, .int 0, .null, .null, .null, .null, .null, .null]) (C := RX8) (T := TX8) (N := 13) hx hb hts iX8 tyX8 tyX8_ok hown (hts _ tw_324) (hts _ tw_215) (hts _ tw_8) hw.1 hw.2.1 hw.2.2.1 hw.2.2.2.1 hA rfl dfX8 (Nat.le_of_ble_eq_true rfl) (Nat.le_of_ble_eq_true rfl) dX4_init_26 (fun q_76 H hP hD hS => ?_)
  have hf := fr_new hD
  have ne_a0_q_76 : a0 ≠ q_76 := fun z => hf _ (z ▸ c_a0)
  have ne_q_1_q_76 : q_1 ≠ q_76 := fun z => hf _ (z ▸ c_q_1)
  have n_q_76 := hw.2.2.2.2.nn0 hf
  have z_q_76 := hG.fresh c_a0 hf
  have hG := hG.app (w1 := [(q_76, .inr (8, [.int 0, .int 0, .int 0, .int 0, .int 0, .int 0, .int 0, .null, .null, .null, .null, .null, .null]))])
  have c_a0 := c_a0.app (w1 := [(q_76, .inr (8, [.int 0, .int 0, .int 0, .int 0, .int 0, .int 0, .int 0, .null, .null, .null, .null, .null, .null]))])
  have c_q_1 := c_q_1.app (w1 := [(q_76, .inr (8, [.int 0, .int 0, .int 0, .int 0, .int 0, .int 0, .int 0, .null, .null, .null, .null, .null, .null]))])
  have c_q_76 : cAt (w_74 ++ [(q_76, .inr (8, [.int 0, .int 0, .int 0, .int 0, .int 0, .int 0, .int 0, .null, .null, .null, .null, .null, .null]))]) q_76 (.inr (8, [.int 0, .int 0, .int 0, .int 0, .int 0, .int 0, .int 0, .null, .null, .null, .null, .null, .null])) := cAt_last
  have hw : tW (dC, dI) y_73 κ_72 B A s (w_74 ++ [(q_76, .inr (8, [.int 0, .int 0, .int 0, .int 0, .int 0, .int 0, .int 0, .null, .null, .null, .null, .null, .null]))]) H locs := ⟨hw.1, hP, hD, hS, hw.2.2.2.2.appT SubT.rf⟩
  clear hf hP hD hS
  generalize (w_74 ++ [(q_76, .inr (8, [.int 0, .int 0, .int 0, .int 0, .int 0, .int 0, .int 0, .null, .null, .null, .null, .null, .null]))]) = w_77 at hw hG c_q_76 c_a0 c_q_1
  refine lv_dup hx hb dX4_init_29 rfl ?_
  refine t_callK (va_runI (As := []) (rest := [.ref q_76, .int 10, .ref q_1]) ⟨hx, hb, hml, hown, hts⟩ (k_X8_init l dC dI y_73 κ_72 B w_77 hw.2.2.2.2 q_76 n_q_76 c_q_76  H.size) (cwI 0 hts (gU tw_218) rfl rfl rfl (hts _ tw_8) (hts _ tw_326) (hts _ tw_217) rfl (by decide +kernel) ⟨(Nat.le_of_ble_eq_true rfl), (Nat.le_of_ble_eq_true rfl)⟩) ⟨cPre.blind, cPre.use hw.2.1 hw.1 hw.2.2.1 hE⟩ rfl rfl hl.1 rfl (lv_room (Nat.le_of_ble_eq_true rfl)) dX4_init_30 ⟨(Nat.le_of_ble_eq_true rfl), (Nat.le_of_ble_eq_true rfl)⟩) hw hA (fun _ h => h.1) (fun u H locs hp hw => ?_)
  obtain ⟨w_78, κ_79, y_80⟩ := u
  obtain ⟨_, hTs1, hGc, kn_q_76⟩ := hp
  dsimp only at hTs1 hGc kn_q_76 hw
  have hG := hG.call hGc z_q_76
  have hTs := hTs.trans hTs1
  have k_q_6 := hGc.1 _ _ k_q_6
  have k_q_13 := hGc.1 _ _ k_q_13
  have k_q_20 := hGc.1 _ _ k_q_20
  have k_q_27 := hGc.1 _ _ k_q_27
  have k_q_34 := hGc.1 _ _ k_q_34
  have k_q_41 := hGc.1 _ _ k_q_41
  have k_q_48 := hGc.1 _ _ k_q_48
  have k_q_55 := hGc.1 _ _ k_q_55
  have k_q_62 := hGc.1 _ _ k_q_62
  have k_q_69 := hGc.1 _ _ k_q_69
  have n_a0 := (hGc.2 _ _ ne_a0_q_76 c_a0).2 n_a0
  have c_a0 := (hGc.2 _ _ ne_a0_q_76 c_a0).1
  have n_q_1 := (hGc.2 _ _ ne_q_1_q_76 c_q_1).2 n_q_1
  have c_q_1 := (hGc.2 _ _ ne_q_1_q_76 c_q_1).1
  have t_q_1 := t_q_1.elim (fun _ h => hTs1 _ _ h)
  have hF_q_1 := hF_q_1.ext hGc.1
  have k_q_76 := kn_q_76
  clear kn_q_76 c_q_76 n_q_76
  refine t_aastU (ci := 8) hx hb hw c_q_1 n_q_1 t_q_1 k_q_76 rfl rfl (show vp_in 10 20 from (by decide : ¬ ((10 : Int32) < 0 ∨ 20 ≤ (10 : Int32).toNatClampNeg))) dX4_init_33 (fun w_81 H locs hw hk c_q_1 => ?_)
  have hG := hG.set hk (Or.inr z_q_1)
  have c_a0 := hk _ _ ne_a0_q_1 c_a0
  have hF_q_1 := hF_q_1.up (x := 10) (by decide) k_q_76
  generalize va_up f_75 (Int32.toNatClampNeg 10) (some q_76) = f_82 at c_q_1 hF_q_1
  refine lv_iinc (v := 11) (lv' := [(1, .int 11), (0, .ref a0)]) hx hb dX4_init_34 hl (k := 0) rfl (by decide) (by decide) rfl (fun ls hl => ?_)
  refine lv_goto (tgt := 15) hx hb dX4_init_37 (by decide) ?_
  refine lv_iload_n hx hb dX4_init_15 rfl (lv_at hl 0 rfl) ?_
  refine lv_bipush (v := 20) hx hb dX4_init_16 (by decide) ?_
  refine lv_icmp_ge (tgt := 40) hx hb dX4_init_18 (by decide) (fun h => absurd h (by decide)) (fun _ => ?_)
  refine lv_aload_n hx hb dX4_init_21 rfl (lv_at hl 1 rfl) ?_
  refine t_getk (ci := 4) (C := RX4) (T := TX4) (N := 3) hx hb hts iX4 hown hw rfl 0 (by decide) (hts _ tw_327) (fun _ h9 => h9) dX4_init_22 (c_a0.fld (k := 0) rfl) ?_
  refine lv_iload_n hx hb dX4_init_25 rfl (lv_at hl 0 rfl) ?_
  refine va_new (ci := 8) (fs := [.int 0, .int 0, .int 0, .int 0, .int 0, .int 0, .int 0, .null, .null, .null, .null, .null, .null]) (C := RX8) (T := TX8) (N := 13) hx hb hts iX8 tyX8 tyX8_ok hown (hts _ tw_324) (hts _ tw_215) (hts _ tw_8) hw.1 hw.2.1 hw.2.2.1 hw.2.2.2.1 hA rfl dfX8 (Nat.le_of_ble_eq_true rfl) (Nat.le_of_ble_eq_true rfl) dX4_init_26 (fun q_83 H hP hD hS => ?_)
  have hf := fr_new hD
  have ne_a0_q_83 : a0 ≠ q_83 := fun z => hf _ (z ▸ c_a0)
  have ne_q_1_q_83 : q_1 ≠ q_83 := fun z => hf _ (z ▸ c_q_1)
  have n_q_83 := hw.2.2.2.2.nn0 hf
  have z_q_83 := hG.fresh c_a0 hf
  have hG := hG.app (w1 := [(q_83, .inr (8, [.int 0, .int 0, .int 0, .int 0, .int 0, .int 0, .int 0, .null, .null, .null, .null, .null, .null]))])
  have c_a0 := c_a0.app (w1 := [(q_83, .inr (8, [.int 0, .int 0, .int 0, .int 0, .int 0, .int 0, .int 0, .null, .null, .null, .null, .null, .null]))])
  have c_q_1 := c_q_1.app (w1 := [(q_83, .inr (8, [.int 0, .int 0, .int 0, .int 0, .int 0, .int 0, .int 0, .null, .null, .null, .null, .null, .null]))])
  have c_q_83 : cAt (w_81 ++ [(q_83, .inr (8, [.int 0, .int 0, .int 0, .int 0, .int 0, .int 0, .int 0, .null, .null, .null, .null, .null, .null]))]) q_83 (.inr (8, [.int 0, .int 0, .int 0, .int 0, .int 0, .int 0, .int 0, .null, .null, .null, .null, .null, .null])) := cAt_last
  have hw : tW (dC, dI) y_80 κ_79 B A s (w_81 ++ [(q_83, .inr (8, [.int 0, .int 0, .int 0, .int 0, .int 0, .int 0, .int 0, .null, .null, .null, .null, .null, .null]))]) H locs := ⟨hw.1, hP, hD, hS, hw.2.2.2.2.appT SubT.rf⟩
  clear hf hP hD hS
  generalize (w_81 ++ [(q_83, .inr (8, [.int 0, .int 0, .int 0, .int 0, .int 0, .int 0, .int 0, .null, .null, .null, .null, .null, .null]))]) = w_84 at hw hG c_q_83 c_a0 c_q_1
  refine lv_dup hx hb dX4_init_29 rfl ?_
  refine t_callK (va_runI (As := []) (rest := [.ref q_83, .int 11, .ref q_1]) ⟨hx, hb, hml, hown, hts⟩ (k_X8_init l dC dI y_80 κ_79 B w_84 hw.2.2.2.2 q_83 n_q_83 c_q_83  H.size) (cwI 0 hts (gU tw_218) rfl rfl rfl (hts _ tw_8) (hts _ tw_326) (hts _ tw_217) rfl (by decide +kernel) ⟨(Nat.le_of_ble_eq_true rfl), (Nat.le_of_ble_eq_true rfl)⟩) ⟨cPre.blind, cPre.use hw.2.1 hw.1 hw.2.2.1 hE⟩ rfl rfl hl.1 rfl (lv_room (Nat.le_of_ble_eq_true rfl)) dX4_init_30 ⟨(Nat.le_of_ble_eq_true rfl), (Nat.le_of_ble_eq_true rfl)⟩) hw hA (fun _ h => h.1) (fun u H locs hp hw => ?_)
  obtain ⟨w_85, κ_86, y_87⟩ := u
  obtain ⟨_, hTs1, hGc, kn_q_83⟩ := hp
  dsimp only at hTs1 hGc kn_q_83 hw
  have hG := hG.call hGc z_q_83
  have hTs := hTs.trans hTs1
  have k_q_6 := hGc.1 _ _ k_q_6
  have k_q_13 := hGc.1 _ _ k_q_13
  have k_q_20 := hGc.1 _ _ k_q_20
  have k_q_27 := hGc.1 _ _ k_q_27
  have k_q_34 := hGc.1 _ _ k_q_34
  have k_q_41 := hGc.1 _ _ k_q_41
  have k_q_48 := hGc.1 _ _ k_q_48
  have k_q_55 := hGc.1 _ _ k_q_55
  have k_q_62 := hGc.1 _ _ k_q_62
  have k_q_69 := hGc.1 _ _ k_q_69
  have k_q_76 := hGc.1 _ _ k_q_76
  have n_a0 := (hGc.2 _ _ ne_a0_q_83 c_a0).2 n_a0
  have c_a0 := (hGc.2 _ _ ne_a0_q_83 c_a0).1
  have n_q_1 := (hGc.2 _ _ ne_q_1_q_83 c_q_1).2 n_q_1
  have c_q_1 := (hGc.2 _ _ ne_q_1_q_83 c_q_1).1
  have t_q_1 := t_q_1.elim (fun _ h => hTs1 _ _ h)
  have hF_q_1 := hF_q_1.ext hGc.1
  have k_q_83 := kn_q_83
  clear kn_q_83 c_q_83 n_q_83
  refine t_aastU (ci := 8) hx hb hw c_q_1 n_q_1 t_q_1 k_q_83 rfl rfl (show vp_in 11 20 from (by decide : ¬ ((11 : Int32) < 0 ∨ 20 ≤ (11 : Int32).toNatClampNeg))) dX4_init_33 (fun w_88 H locs hw hk c_q_1 => ?_)
  have hG := hG.set hk (Or.inr z_q_1)
  have c_a0 := hk _ _ ne_a0_q_1 c_a0
  have hF_q_1 := hF_q_1.up (x := 11) (by decide) k_q_83
  generalize va_up f_82 (Int32.toNatClampNeg 11) (some q_83) = f_89 at c_q_1 hF_q_1
  refine lv_iinc (v := 12) (lv' := [(1, .int 12), (0, .ref a0)]) hx hb dX4_init_34 hl (k := 0) rfl (by decide) (by decide) rfl (fun ls hl => ?_)
  refine lv_goto (tgt := 15) hx hb dX4_init_37 (by decide) ?_
  refine lv_iload_n hx hb dX4_init_15 rfl (lv_at hl 0 rfl) ?_
  refine lv_bipush (v := 20) hx hb dX4_init_16 (by decide) ?_
  refine lv_icmp_ge (tgt := 40) hx hb dX4_init_18 (by decide) (fun h => absurd h (by decide)) (fun _ => ?_)
  refine lv_aload_n hx hb dX4_init_21 rfl (lv_at hl 1 rfl) ?_
  refine t_getk (ci := 4) (C := RX4) (T := TX4) (N := 3) hx hb hts iX4 hown hw rfl 0 (by decide) (hts _ tw_327) (fun _ h9 => h9) dX4_init_22 (c_a0.fld (k := 0) rfl) ?_
  refine lv_iload_n hx hb dX4_init_25 rfl (lv_at hl 0 rfl) ?_
  refine va_new (ci := 8) (fs := [.int 0, .int 0, .int 0, .int 0, .int 0, .int 0, .int 0, .null, .null, .null, .null, .null, .null]) (C := RX8) (T := TX8) (N := 13) hx hb hts iX8 tyX8 tyX8_ok hown (hts _ tw_324) (hts _ tw_215) (hts _ tw_8) hw.1 hw.2.1 hw.2.2.1 hw.2.2.2.1 hA rfl dfX8 (Nat.le_of_ble_eq_true rfl) (Nat.le_of_ble_eq_true rfl) dX4_init_26 (fun q_90 H hP hD hS => ?_)
  have hf := fr_new hD
  have ne_a0_q_90 : a0 ≠ q_90 := fun z => hf _ (z ▸ c_a0)
  have ne_q_1_q_90 : q_1 ≠ q_90 := fun z => hf _ (z ▸ c_q_1)
  have n_q_90 := hw.2.2.2.2.nn0 hf
  have z_q_90 := hG.fresh c_a0 hf
  have hG := hG.app (w1 := [(q_90, .inr (8, [.int 0, .int 0, .int 0, .int 0, .int 0, .int 0, .int 0, .null, .null, .null, .null, .null, .null]))])
  have c_a0 := c_a0.app (w1 := [(q_90, .inr (8, [.int 0, .int 0, .int 0, .int 0, .int 0, .int 0, .int 0, .null, .null, .null, .null, .null, .null]))])
  have c_q_1 := c_q_1.app (w1 := [(q_90, .inr (8, [.int 0, .int 0, .int 0, .int 0, .int 0, .int 0, .int 0, .null, .null, .null, .null, .null, .null]))])
  have c_q_90 : cAt (w_88 ++ [(q_90, .inr (8, [.int 0, .int 0, .int 0, .int 0, .int 0, .int 0, .int 0, .null, .null, .null, .null, .null, .null]))]) q_90 (.inr (8, [.int 0, .int 0, .int 0, .int 0, .int 0, .int 0, .int 0, .null, .null, .null, .null, .null, .null])) := cAt_last
  have hw : tW (dC, dI) y_87 κ_86 B A s (w_88 ++ [(q_90, .inr (8, [.int 0, .int 0, .int 0, .int 0, .int 0, .int 0, .int 0, .null, .null, .null, .null, .null, .null]))]) H locs := ⟨hw.1, hP, hD, hS, hw.2.2.2.2.appT SubT.rf⟩
  clear hf hP hD hS
  generalize (w_88 ++ [(q_90, .inr (8, [.int 0, .int 0, .int 0, .int 0, .int 0, .int 0, .int 0, .null, .null, .null, .null, .null, .null]))]) = w_91 at hw hG c_q_90 c_a0 c_q_1
  refine lv_dup hx hb dX4_init_29 rfl ?_
  refine t_callK (va_runI (As := []) (rest := [.ref q_90, .int 12, .ref q_1]) ⟨hx, hb, hml, hown, hts⟩ (k_X8_init l dC dI y_87 κ_86 B w_91 hw.2.2.2.2 q_90 n_q_90 c_q_90  H.size) (cwI 0 hts (gU tw_218) rfl rfl rfl (hts _ tw_8) (hts _ tw_326) (hts _ tw_217) rfl (by decide +kernel) ⟨(Nat.le_of_ble_eq_true rfl), (Nat.le_of_ble_eq_true rfl)⟩) ⟨cPre.blind, cPre.use hw.2.1 hw.1 hw.2.2.1 hE⟩ rfl rfl hl.1 rfl (lv_room (Nat.le_of_ble_eq_true rfl)) dX4_init_30 ⟨(Nat.le_of_ble_eq_true rfl), (Nat.le_of_ble_eq_true rfl)⟩) hw hA (fun _ h => h.1) (fun u H locs hp hw => ?_)
  obtain ⟨w_92, κ_93, y_94⟩ := u
  obtain ⟨_, hTs1, hGc, kn_q_90⟩ := hp
  dsimp only at hTs1 hGc kn_q_90 hw
  have hG := hG.call hGc z_q_90
  have hTs := hTs.trans hTs1
  have k_q_6 := hGc.1 _ _ k_q_6
  have k_q_13 := hGc.1 _ _ k_q_13
  have k_q_20 := hGc.1 _ _ k_q_20
  have k_q_27 := hGc.1 _ _ k_q_27
  have k_q_34 := hGc.1 _ _ k_q_34
  have k_q_41 := hGc.1 _ _ k_q_41
  have k_q_48 := hGc.1 _ _ k_q_48
  have k_q_55 := hGc.1 _ _ k_q_55
  have k_q_62 := hGc.1 _ _ k_q_62
  have k_q_69 := hGc.1 _ _ k_q_69
  have k_q_76 := hGc.1 _ _ k_q_76
  have k_q_83 := hGc.1 _ _ k_q_83
  have n_a0 := (hGc.2 _ _ ne_a0_q_90 c_a0).2 n_a0
  have c_a0 := (hGc.2 _ _ ne_a0_q_90 c_a0).1
  have n_q_1 := (hGc.2 _ _ ne_q_1_q_90 c_q_1).2 n_q_1
  have c_q_1 := (hGc.2 _ _ ne_q_1_q_90 c_q_1).1
  have t_q_1 := t_q_1.elim (fun _ h => hTs1 _ _ h)
  have hF_q_1 := hF_q_1.ext hGc.1
  have k_q_90 := kn_q_90
  clear kn_q_90 c_q_90 n_q_90
  refine t_aastU (ci := 8) hx hb hw c_q_1 n_q_1 t_q_1 k_q_90 rfl rfl (show vp_in 12 20 from (by decide : ¬ ((12 : Int32) < 0 ∨ 20 ≤ (12 : Int32).toNatClampNeg))) dX4_init_33 (fun w_95 H locs hw hk c_q_1 => ?_)
  have hG := hG.set hk (Or.inr z_q_1)
  have c_a0 := hk _ _ ne_a0_q_1 c_a0
  have hF_q_1 := hF_q_1.up (x := 12) (by decide) k_q_90
  generalize va_up f_89 (Int32.toNatClampNeg 12) (some q_90) = f_96 at c_q_1 hF_q_1
  refine lv_iinc (v := 13) (lv' := [(1, .int 13), (0, .ref a0)]) hx hb dX4_init_34 hl (k := 0) rfl (by decide) (by decide) rfl (fun ls hl => ?_)
  refine lv_goto (tgt := 15) hx hb dX4_init_37 (by decide) ?_
  refine lv_iload_n hx hb dX4_init_15 rfl (lv_at hl 0 rfl) ?_
  refine lv_bipush (v := 20) hx hb dX4_init_16 (by decide) ?_
  refine lv_icmp_ge (tgt := 40) hx hb dX4_init_18 (by decide) (fun h => absurd h (by decide)) (fun _ => ?_)
  refine lv_aload_n hx hb dX4_init_21 rfl (lv_at hl 1 rfl) ?_
  refine t_getk (ci := 4) (C := RX4) (T := TX4) (N := 3) hx hb hts iX4 hown hw rfl 0 (by decide) (hts _ tw_327) (fun _ h9 => h9) dX4_init_22 (c_a0.fld (k := 0) rfl) ?_
  refine lv_iload_n hx hb dX4_init_25 rfl (lv_at hl 0 rfl) ?_
  refine va_new (ci := 8) (fs := [.int 0, .int 0, .int 0, .int 0, .int 0, .int 0, .int 0, .null, .null, .null, .null, .null, .null]) (C := RX8) (T := TX8) (N := 13) hx hb hts iX8 tyX8 tyX8_ok hown (hts _ tw_324) (hts _ tw_215) (hts _ tw_8) hw.1 hw.2.1 hw.2.2.1 hw.2.2.2.1 hA rfl dfX8 (Nat.le_of_ble_eq_true rfl) (Nat.le_of_ble_eq_true rfl) dX4_init_26 (fun q_97 H hP hD hS => ?_)
  have hf := fr_new hD
  have ne_a0_q_97 : a0 ≠ q_97 := fun z => hf _ (z ▸ c_a0)
  have ne_q_1_q_97 : q_1 ≠ q_97 := fun z => hf _ (z ▸ c_q_1)
  have n_q_97 := hw.2.2.2.2.nn0 hf
  have z_q_97 := hG.fresh c_a0 hf
  have hG := hG.app (w1 := [(q_97, .inr (8, [.int 0, .int 0, .int 0, .int 0, .int 0, .int 0, .int 0, .null, .null, .null, .null, .null, .null]))])
  have c_a0 := c_a0.app (w1 := [(q_97, .inr (8, [.int 0, .int 0, .int 0, .int 0, .int 0, .int 0, .int 0, .null, .null, .null, .null, .null, .null]))])
  have c_q_1 := c_q_1.app (w1 := [(q_97, .inr (8, [.int 0, .int 0, .int 0, .int 0, .int 0, .int 0, .int 0, .null, .null, .null, .null, .null, .null]))])
  have c_q_97 : cAt (w_95 ++ [(q_97, .inr (8, [.int 0, .int 0, .int 0, .int 0, .int 0, .int 0, .int 0, .null, .null, .null, .null, .null, .null]))]) q_97 (.inr (8, [.int 0, .int 0, .int 0, .int 0, .int 0, .int 0, .int 0, .null, .null, .null, .null, .null, .null])) := cAt_last
  have hw : tW (dC, dI) y_94 κ_93 B A s (w_95 ++ [(q_97, .inr (8, [.int 0, .int 0, .int 0, .int 0, .int 0, .int 0, .int 0, .null, .null, .null, .null, .null, .null]))]) H locs := ⟨hw.1, hP, hD, hS, hw.2.2.2.2.appT SubT.rf⟩
  clear hf hP hD hS
  generalize (w_95 ++ [(q_97, .inr (8, [.int 0, .int 0, .int 0, .int 0, .int 0, .int 0, .int 0, .null, .null, .null, .null, .null, .null]))]) = w_98 at hw hG c_q_97 c_a0 c_q_1
  refine lv_dup hx hb dX4_init_29 rfl ?_
  refine t_callK (va_runI (As := []) (rest := [.ref q_97, .int 13, .ref q_1]) ⟨hx, hb, hml, hown, hts⟩ (k_X8_init l dC dI y_94 κ_93 B w_98 hw.2.2.2.2 q_97 n_q_97 c_q_97  H.size) (cwI 0 hts (gU tw_218) rfl rfl rfl (hts _ tw_8) (hts _ tw_326) (hts _ tw_217) rfl (by decide +kernel) ⟨(Nat.le_of_ble_eq_true rfl), (Nat.le_of_ble_eq_true rfl)⟩) ⟨cPre.blind, cPre.use hw.2.1 hw.1 hw.2.2.1 hE⟩ rfl rfl hl.1 rfl (lv_room (Nat.le_of_ble_eq_true rfl)) dX4_init_30 ⟨(Nat.le_of_ble_eq_true rfl), (Nat.le_of_ble_eq_true rfl)⟩) hw hA (fun _ h => h.1) (fun u H locs hp hw => ?_)
  obtain ⟨w_99, κ_100, y_101⟩ := u
  obtain ⟨_, hTs1, hGc, kn_q_97⟩ := hp
  dsimp only at hTs1 hGc kn_q_97 hw
  have hG := hG.call hGc z_q_97
  have hTs := hTs.trans hTs1
  have k_q_6 := hGc.1 _ _ k_q_6
  have k_q_13 := hGc.1 _ _ k_q_13
  have k_q_20 := hGc.1 _ _ k_q_20
  have k_q_27 := hGc.1 _ _ k_q_27
  have k_q_34 := hGc.1 _ _ k_q_34
  have k_q_41 := hGc.1 _ _ k_q_41
  have k_q_48 := hGc.1 _ _ k_q_48
  have k_q_55 := hGc.1 _ _ k_q_55
  have k_q_62 := hGc.1 _ _ k_q_62
  have k_q_69 := hGc.1 _ _ k_q_69
  have k_q_76 := hGc.1 _ _ k_q_76
  have k_q_83 := hGc.1 _ _ k_q_83
  have k_q_90 := hGc.1 _ _ k_q_90
  have n_a0 := (hGc.2 _ _ ne_a0_q_97 c_a0).2 n_a0
  have c_a0 := (hGc.2 _ _ ne_a0_q_97 c_a0).1
  have n_q_1 := (hGc.2 _ _ ne_q_1_q_97 c_q_1).2 n_q_1
  have c_q_1 := (hGc.2 _ _ ne_q_1_q_97 c_q_1).1
  have t_q_1 := t_q_1.elim (fun _ h => hTs1 _ _ h)
  have hF_q_1 := hF_q_1.ext hGc.1
  have k_q_97 := kn_q_97
  clear kn_q_97 c_q_97 n_q_97
  refine t_aastU (ci := 8) hx hb hw c_q_1 n_q_1 t_q_1 k_q_97 rfl rfl (show vp_in 13 20 from (by decide : ¬ ((13 : Int32) < 0 ∨ 20 ≤ (13 : Int32).toNatClampNeg))) dX4_init_33 (fun w_102 H locs hw hk c_q_1 => ?_)
  have hG := hG.set hk (Or.inr z_q_1)
  have c_a0 := hk _ _ ne_a0_q_1 c_a0
  have hF_q_1 := hF_q_1.up (x := 13) (by decide) k_q_97
  generalize va_up f_96 (Int32.toNatClampNeg 13) (some q_97) = f_103 at c_q_1 hF_q_1
  refine lv_iinc (v := 14) (lv' := [(1, .int 14), (0, .ref a0)]) hx hb dX4_init_34 hl (k := 0) rfl (by decide) (by decide) rfl (fun ls hl => ?_)
  refine lv_goto (tgt := 15) hx hb dX4_init_37 (by decide) ?_
  refine lv_iload_n hx hb dX4_init_15 rfl (lv_at hl 0 rfl) ?_
  refine lv_bipush (v := 20) hx hb dX4_init_16 (by decide) ?_
  refine lv_icmp_ge (tgt := 40) hx hb dX4_init_18 (by decide) (fun h => absurd h (by decide)) (fun _ => ?_)
  refine lv_aload_n hx hb dX4_init_21 rfl (lv_at hl 1 rfl) ?_
  refine t_getk (ci := 4) (C := RX4) (T := TX4) (N := 3) hx hb hts iX4 hown hw rfl 0 (by decide) (hts _ tw_327) (fun _ h9 => h9) dX4_init_22 (c_a0.fld (k := 0) rfl) ?_
  refine lv_iload_n hx hb dX4_init_25 rfl (lv_at hl 0 rfl) ?_
  refine va_new (ci := 8) (fs := [.int 0, .int 0, .int 0, .int 0, .int 0, .int 0, .int 0, .null, .null, .null, .null, .null, .null]) (C := RX8) (T := TX8) (N := 13) hx hb hts iX8 tyX8 tyX8_ok hown (hts _ tw_324) (hts _ tw_215) (hts _ tw_8) hw.1 hw.2.1 hw.2.2.1 hw.2.2.2.1 hA rfl dfX8 (Nat.le_of_ble_eq_true rfl) (Nat.le_of_ble_eq_true rfl) dX4_init_26 (fun q_104 H hP hD hS => ?_)
  have hf := fr_new hD
  have ne_a0_q_104 : a0 ≠ q_104 := fun z => hf _ (z ▸ c_a0)
  have ne_q_1_q_104 : q_1 ≠ q_104 := fun z => hf _ (z ▸ c_q_1)
  have n_q_104 := hw.2.2.2.2.nn0 hf
  have z_q_104 := hG.fresh c_a0 hf
  have hG := hG.app (w1 := [(q_104, .inr (8, [.int 0, .int 0, .int 0, .int 0, .int 0, .int 0, .int 0, .null, .null, .null, .null, .null, .null]))])
  have c_a0 := c_a0.app (w1 := [(q_104, .inr (8, [.int 0, .int 0, .int 0, .int 0, .int 0, .int 0, .int 0, .null, .null, .null, .null, .null, .null]))])
  have c_q_1 := c_q_1.app (w1 := [(q_104, .inr (8, [.int 0, .int 0, .int 0, .int 0, .int 0, .int 0, .int 0, .null, .null, .null, .null, .null, .null]))])
  have c_q_104 : cAt (w_102 ++ [(q_104, .inr (8, [.int 0, .int 0, .int 0, .int 0, .int 0, .int 0, .int 0, .null, .null, .null, .null, .null, .null]))]) q_104 (.inr (8, [.int 0, .int 0, .int 0, .int 0, .int 0, .int 0, .int 0, .null, .null, .null, .null, .null, .null])) := cAt_last
  have hw : tW (dC, dI) y_101 κ_100 B A s (w_102 ++ [(q_104, .inr (8, [.int 0, .int 0, .int 0, .int 0, .int 0, .int 0, .int 0, .null, .null, .null, .null, .null, .null]))]) H locs := ⟨hw.1, hP, hD, hS, hw.2.2.2.2.appT SubT.rf⟩
  clear hf hP hD hS
  generalize (w_102 ++ [(q_104, .inr (8, [.int 0, .int 0, .int 0, .int 0, .int 0, .int 0, .int 0, .null, .null, .null, .null, .null, .null]))]) = w_105 at hw hG c_q_104 c_a0 c_q_1
  refine lv_dup hx hb dX4_init_29 rfl ?_
  refine t_callK (va_runI (As := []) (rest := [.ref q_104, .int 14, .ref q_1]) ⟨hx, hb, hml, hown, hts⟩ (k_X8_init l dC dI y_101 κ_100 B w_105 hw.2.2.2.2 q_104 n_q_104 c_q_104  H.size) (cwI 0 hts (gU tw_218) rfl rfl rfl (hts _ tw_8) (hts _ tw_326) (hts _ tw_217) rfl (by decide +kernel) ⟨(Nat.le_of_ble_eq_true rfl), (Nat.le_of_ble_eq_true rfl)⟩) ⟨cPre.blind, cPre.use hw.2.1 hw.1 hw.2.2.1 hE⟩ rfl rfl hl.1 rfl (lv_room (Nat.le_of_ble_eq_true rfl)) dX4_init_30 ⟨(Nat.le_of_ble_eq_true rfl), (Nat.le_of_ble_eq_true rfl)⟩) hw hA (fun _ h => h.1) (fun u H locs hp hw => ?_)
  obtain ⟨w_106, κ_107, y_108⟩ := u
  obtain ⟨_, hTs1, hGc, kn_q_104⟩ := hp
  dsimp only at hTs1 hGc kn_q_104 hw
  have hG := hG.call hGc z_q_104
  have hTs := hTs.trans hTs1
  have k_q_6 := hGc.1 _ _ k_q_6
  have k_q_13 := hGc.1 _ _ k_q_13
  have k_q_20 := hGc.1 _ _ k_q_20
  have k_q_27 := hGc.1 _ _ k_q_27
  have k_q_34 := hGc.1 _ _ k_q_34
  have k_q_41 := hGc.1 _ _ k_q_41
  have k_q_48 := hGc.1 _ _ k_q_48
  have k_q_55 := hGc.1 _ _ k_q_55
  have k_q_62 := hGc.1 _ _ k_q_62
  have k_q_69 := hGc.1 _ _ k_q_69
  have k_q_76 := hGc.1 _ _ k_q_76
  have k_q_83 := hGc.1 _ _ k_q_83
  have k_q_90 := hGc.1 _ _ k_q_90
  have k_q_97 := hGc.1 _ _ k_q_97
  have n_a0 := (hGc.2 _ _ ne_a0_q_104 c_a0).2 n_a0
  have c_a0 := (hGc.2 _ _ ne_a0_q_104 c_a0).1
  have n_q_1 := (hGc.2 _ _ ne_q_1_q_104 c_q_1).2 n_q_1
  have c_q_1 := (hGc.2 _ _ ne_q_1_q_104 c_q_1).1
  have t_q_1 := t_q_1.elim (fun _ h => hTs1 _ _ h)
  have hF_q_1 := hF_q_1.ext hGc.1
  have k_q_104 := kn_q_104
  clear kn_q_104 c_q_104 n_q_104
  refine t_aastU (ci := 8) hx hb hw c_q_1 n_q_1 t_q_1 k_q_104 rfl rfl (show vp_in 14 20 from (by decide : ¬ ((14 : Int32) < 0 ∨ 20 ≤ (14 : Int32).toNatClampNeg))) dX4_init_33 (fun w_109 H locs hw hk c_q_1 => ?_)
  have hG := hG.set hk (Or.inr z_q_1)
  have c_a0 := hk _ _ ne_a0_q_1 c_a0
  have hF_q_1 := hF_q_1.up (x := 14) (by decide) k_q_104
  generalize va_up f_103 (Int32.toNatClampNeg 14) (some q_104) = f_110 at c_q_1 hF_q_1
  refine lv_iinc (v := 15) (lv' := [(1, .int 15), (0, .ref a0)]) hx hb dX4_init_34 hl (k := 0) rfl (by decide) (by decide) rfl (fun ls hl => ?_)
  refine lv_goto (tgt := 15) hx hb dX4_init_37 (by decide) ?_
  refine lv_iload_n hx hb dX4_init_15 rfl (lv_at hl 0 rfl) ?_
  refine lv_bipush (v := 20) hx hb dX4_init_16 (by decide) ?_
  refine lv_icmp_ge (tgt := 40) hx hb dX4_init_18 (by decide) (fun h => absurd h (by decide)) (fun _ => ?_)
  refine lv_aload_n hx hb dX4_init_21 rfl (lv_at hl 1 rfl) ?_
  refine t_getk (ci := 4) (C := RX4) (T := TX4) (N := 3) hx hb hts iX4 hown hw rfl 0 (by decide) (hts _ tw_327) (fun _ h9 => h9) dX4_init_22 (c_a0.fld (k := 0) rfl) ?_
  refine lv_iload_n hx hb dX4_init_25 rfl (lv_at hl 0 rfl) ?_
  refine va_new (ci := 8) (fs := [.int 0, .int 0, .int 0, .int 0, .int 0, .int 0, .int 0, .null, .null, .null, .null, .null, .null]) (C := RX8) (T := TX8) (N := 13) hx hb hts iX8 tyX8 tyX8_ok hown (hts _ tw_324) (hts _ tw_215) (hts _ tw_8) hw.1 hw.2.1 hw.2.2.1 hw.2.2.2.1 hA rfl dfX8 (Nat.le_of_ble_eq_true rfl) (Nat.le_of_ble_eq_true rfl) dX4_init_26 (fun q_111 H hP hD hS => ?_)
  have hf := fr_new hD
  have ne_a0_q_111 : a0 ≠ q_111 := fun z => hf _ (z ▸ c_a0)
  have ne_q_1_q_111 : q_1 ≠ q_111 := fun z => hf _ (z ▸ c_q_1)
  have n_q_111 := hw.2.2.2.2.nn0 hf
  have z_q_111 := hG.fresh c_a0 hf
  have hG := hG.app (w1 := [(q_111, .inr (8, [.int 0, .int 0, .int 0, .int 0, .int 0, .int 0, .int 0, .null, .null, .null, .null, .null, .null]))])
  have c_a0 := c_a0.app (w1 := [(q_111, .inr (8, [.int 0, .int 0, .int 0, .int 0, .int 0, .int 0, .int 0, .null, .null, .null, .null, .null, .null]))])
  have c_q_1 := c_q_1.app (w1 := [(q_111, .inr (8, [.int 0, .int 0, .int 0, .int 0, .int 0, .int 0, .int 0, .null, .null, .null, .null, .null, .null]))])
  have c_q_111 : cAt (w_109 ++ [(q_111, .inr (8, [.int 0, .int 0, .int 0, .int 0, .int 0, .int 0, .int 0, .null, .null, .null, .null, .null, .null]))]) q_111 (.inr (8, [.int 0, .int 0, .int 0, .int 0, .int 0, .int 0, .int 0, .null, .null, .null, .null, .null, .null])) := cAt_last
  have hw : tW (dC, dI) y_108 κ_107 B A s (w_109 ++ [(q_111, .inr (8, [.int 0, .int 0, .int 0, .int 0, .int 0, .int 0, .int 0, .null, .null, .null, .null, .null, .null]))]) H locs := ⟨hw.1, hP, hD, hS, hw.2.2.2.2.appT SubT.rf⟩
  clear hf hP hD hS
  generalize (w_109 ++ [(q_111, .inr (8, [.int 0, .int 0, .int 0, .int 0, .int 0, .int 0, .int 0, .null, .null, .null, .null, .null, .null]))]) = w_112 at hw hG c_q_111 c_a0 c_q_1
  refine lv_dup hx hb dX4_init_29 rfl ?_
  refine t_callK (va_runI (As := []) (rest := [.ref q_111, .int 15, .ref q_1]) ⟨hx, hb, hml, hown, hts⟩ (k_X8_init l dC dI y_108 κ_107 B w_112 hw.2.2.2.2 q_111 n_q_111 c_q_111  H.size) (cwI 0 hts (gU tw_218) rfl rfl rfl (hts _ tw_8) (hts _ tw_326) (hts _ tw_217) rfl (by decide +kernel) ⟨(Nat.le_of_ble_eq_true rfl), (Nat.le_of_ble_eq_true rfl)⟩) ⟨cPre.blind, cPre.use hw.2.1 hw.1 hw.2.2.1 hE⟩ rfl rfl hl.1 rfl (lv_room (Nat.le_of_ble_eq_true rfl)) dX4_init_30 ⟨(Nat.le_of_ble_eq_true rfl), (Nat.le_of_ble_eq_true rfl)⟩) hw hA (fun _ h => h.1) (fun u H locs hp hw => ?_)
  obtain ⟨w_113, κ_114, y_115⟩ := u
  obtain ⟨_, hTs1, hGc, kn_q_111⟩ := hp
  dsimp only at hTs1 hGc kn_q_111 hw
  have hG := hG.call hGc z_q_111
  have hTs := hTs.trans hTs1
  have k_q_6 := hGc.1 _ _ k_q_6
  have k_q_13 := hGc.1 _ _ k_q_13
  have k_q_20 := hGc.1 _ _ k_q_20
  have k_q_27 := hGc.1 _ _ k_q_27
  have k_q_34 := hGc.1 _ _ k_q_34
  have k_q_41 := hGc.1 _ _ k_q_41
  have k_q_48 := hGc.1 _ _ k_q_48
  have k_q_55 := hGc.1 _ _ k_q_55
  have k_q_62 := hGc.1 _ _ k_q_62
  have k_q_69 := hGc.1 _ _ k_q_69
  have k_q_76 := hGc.1 _ _ k_q_76
  have k_q_83 := hGc.1 _ _ k_q_83
  have k_q_90 := hGc.1 _ _ k_q_90
  have k_q_97 := hGc.1 _ _ k_q_97
  have k_q_104 := hGc.1 _ _ k_q_104
  have n_a0 := (hGc.2 _ _ ne_a0_q_111 c_a0).2 n_a0
  have c_a0 := (hGc.2 _ _ ne_a0_q_111 c_a0).1
  have n_q_1 := (hGc.2 _ _ ne_q_1_q_111 c_q_1).2 n_q_1
  have c_q_1 := (hGc.2 _ _ ne_q_1_q_111 c_q_1).1
  have t_q_1 := t_q_1.elim (fun _ h => hTs1 _ _ h)
  have hF_q_1 := hF_q_1.ext hGc.1
  have k_q_111 := kn_q_111
  clear kn_q_111 c_q_111 n_q_111
  refine t_aastU (ci := 8) hx hb hw c_q_1 n_q_1 t_q_1 k_q_111 rfl rfl (show vp_in 15 20 from (by decide : ¬ ((15 : Int32) < 0 ∨ 20 ≤ (15 : Int32).toNatClampNeg))) dX4_init_33 (fun w_116 H locs hw hk c_q_1 => ?_)
  have hG := hG.set hk (Or.inr z_q_1)
  have c_a0 := hk _ _ ne_a0_q_1 c_a0
  have hF_q_1 := hF_q_1.up (x := 15) (by decide) k_q_111
  generalize va_up f_110 (Int32.toNatClampNeg 15) (some q_111) = f_117 at c_q_1 hF_q_1
  refine lv_iinc (v := 16) (lv' := [(1, .int 16), (0, .ref a0)]) hx hb dX4_init_34 hl (k := 0) rfl (by decide) (by decide) rfl (fun ls hl => ?_)
  refine lv_goto (tgt := 15) hx hb dX4_init_37 (by decide) ?_
  refine lv_iload_n hx hb dX4_init_15 rfl (lv_at hl 0 rfl) ?_
  refine lv_bipush (v := 20) hx hb dX4_init_16 (by decide) ?_
  refine lv_icmp_ge (tgt := 40) hx hb dX4_init_18 (by decide) (fun h => absurd h (by decide)) (fun _ => ?_)
  refine lv_aload_n hx hb dX4_init_21 rfl (lv_at hl 1 rfl) ?_
  refine t_getk (ci := 4) (C := RX4) (T := TX4) (N := 3) hx hb hts iX4 hown hw rfl 0 (by decide) (hts _ tw_327) (fun _ h9 => h9) dX4_init_22 (c_a0.fld (k := 0) rfl) ?_
  refine lv_iload_n hx hb dX4_init_25 rfl (lv_at hl 0 rfl) ?_
  refine va_new (ci := 8) (fs := [.int 0, .int 0, .int 0, .int 0, .int 0, .int 0, .int 0, .null, .null, .null, .null, .null, .null]) (C := RX8) (T := TX8) (N := 13) hx hb hts iX8 tyX8 tyX8_ok hown (hts _ tw_324) (hts _ tw_215) (hts _ tw_8) hw.1 hw.2.1 hw.2.2.1 hw.2.2.2.1 hA rfl dfX8 (Nat.le_of_ble_eq_true rfl) (Nat.le_of_ble_eq_true rfl) dX4_init_26 (fun q_118 H hP hD hS => ?_)
  have hf := fr_new hD
  have ne_a0_q_118 : a0 ≠ q_118 := fun z => hf _ (z ▸ c_a0)
  have ne_q_1_q_118 : q_1 ≠ q_118 := fun z => hf _ (z ▸ c_q_1)
  have n_q_118 := hw.2.2.2.2.nn0 hf
  have z_q_118 := hG.fresh c_a0 hf
  have hG := hG.app (w1 := [(q_118, .inr (8, [.int 0, .int 0, .int 0, .int 0, .int 0, .int 0, .int 0, .null, .null, .null, .null, .null, .null]))])
  have c_a0 := c_a0.app (w1 := [(q_118, .inr (8, [.int 0, .int 0, .int 0, .int 0, .int 0, .int 0, .int 0, .null, .null, .null, .null, .null, .null]))])
  have c_q_1 := c_q_1.app (w1 := [(q_118, .inr (8, [.int 0, .int 0, .int 0, .int 0, .int 0, .int 0, .int 0, .null, .null, .null, .null, .null, .null]))])
  have c_q_118 : cAt (w_116 ++ [(q_118, .inr (8, [.int 0, .int 0, .int 0, .int 0, .int 0, .int 0, .int 0, .null, .null, .null, .null, .null, .null]))]) q_118 (.inr (8, [.int 0, .int 0, .int 0, .int 0, .int 0, .int 0, .int 0, .null, .null, .null, .null, .null, .null])) := cAt_last
  have hw : tW (dC, dI) y_115 κ_114 B A s (w_116 ++ [(q_118, .inr (8, [.int 0, .int 0, .int 0, .int 0, .int 0, .int 0, .int 0, .null, .null, .null, .null, .null, .null]))]) H locs := ⟨hw.1, hP, hD, hS, hw.2.2.2.2.appT SubT.rf⟩
  clear hf hP hD hS
  generalize (w_116 ++ [(q_118, .inr (8, [.int 0, .int 0, .int 0, .int 0, .int 0, .int 0, .int 0, .null, .null, .null, .null, .null, .null]))]) = w_119 at hw hG c_q_118 c_a0 c_q_1
  refine lv_dup hx hb dX4_init_29 rfl ?_
  refine t_callK (va_runI (As := []) (rest := [.ref q_118, .int 16, .ref q_1]) ⟨hx, hb, hml, hown, hts⟩ (k_X8_init l dC dI y_115 κ_114 B w_119 hw.2.2.2.2 q_118 n_q_118 c_q_118  H.size) (cwI 0 hts (gU tw_218) rfl rfl rfl (hts _ tw_8) (hts _ tw_326) (hts _ tw_217) rfl (by decide +kernel) ⟨(Nat.le_of_ble_eq_true rfl), (Nat.le_of_ble_eq_true rfl)⟩) ⟨cPre.blind, cPre.use hw.2.1 hw.1 hw.2.2.1 hE⟩ rfl rfl hl.1 rfl (lv_room (Nat.le_of_ble_eq_true rfl)) dX4_init_30 ⟨(Nat.le_of_ble_eq_true rfl), (Nat.le_of_ble_eq_true rfl)⟩) hw hA (fun _ h => h.1) (fun u H locs hp hw => ?_)
  obtain ⟨w_120, κ_121, y_122⟩ := u
  obtain ⟨_, hTs1, hGc, kn_q_118⟩ := hp
  dsimp only at hTs1 hGc kn_q_118 hw
  have hG := hG.call hGc z_q_118
  have hTs := hTs.trans hTs1
  have k_q_6 := hGc.1 _ _ k_q_6
  have k_q_13 := hGc.1 _ _ k_q_13
  have k_q_20 := hGc.1 _ _ k_q_20
  have k_q_27 := hGc.1 _ _ k_q_27
  have k_q_34 := hGc.1 _ _ k_q_34
  have k_q_41 := hGc.1 _ _ k_q_41
  have k_q_48 := hGc.1 _ _ k_q_48
  have k_q_55 := hGc.1 _ _ k_q_55
  have k_q_62 := hGc.1 _ _ k_q_62
  have k_q_69 := hGc.1 _ _ k_q_69
  have k_q_76 := hGc.1 _ _ k_q_76
  have k_q_83 := hGc.1 _ _ k_q_83
  have k_q_90 := hGc.1 _ _ k_q_90
  have k_q_97 := hGc.1 _ _ k_q_97
  have k_q_104 := hGc.1 _ _ k_q_104
  have k_q_111 := hGc.1 _ _ k_q_111
  have n_a0 := (hGc.2 _ _ ne_a0_q_118 c_a0).2 n_a0
  have c_a0 := (hGc.2 _ _ ne_a0_q_118 c_a0).1
  have n_q_1 := (hGc.2 _ _ ne_q_1_q_118 c_q_1).2 n_q_1
  have c_q_1 := (hGc.2 _ _ ne_q_1_q_118 c_q_1).1
  have t_q_1 := t_q_1.elim (fun _ h => hTs1 _ _ h)
  have hF_q_1 := hF_q_1.ext hGc.1
  have k_q_118 := kn_q_118
  clear kn_q_118 c_q_118 n_q_118
  refine t_aastU (ci := 8) hx hb hw c_q_1 n_q_1 t_q_1 k_q_118 rfl rfl (show vp_in 16 20 from (by decide : ¬ ((16 : Int32) < 0 ∨ 20 ≤ (16 : Int32).toNatClampNeg))) dX4_init_33 (fun w_123 H locs hw hk c_q_1 => ?_)
  have hG := hG.set hk (Or.inr z_q_1)
  have c_a0 := hk _ _ ne_a0_q_1 c_a0
  have hF_q_1 := hF_q_1.up (x := 16) (by decide) k_q_118
  generalize va_up f_117 (Int32.toNatClampNeg 16) (some q_118) = f_124 at c_q_1 hF_q_1
  refine lv_iinc (v := 17) (lv' := [(1, .int 17), (0, .ref a0)]) hx hb dX4_init_34 hl (k := 0) rfl (by decide) (by decide) rfl (fun ls hl => ?_)
  refine lv_goto (tgt := 15) hx hb dX4_init_37 (by decide) ?_
  refine lv_iload_n hx hb dX4_init_15 rfl (lv_at hl 0 rfl) ?_
  refine lv_bipush (v := 20) hx hb dX4_init_16 (by decide) ?_
  refine lv_icmp_ge (tgt := 40) hx hb dX4_init_18 (by decide) (fun h => absurd h (by decide)) (fun _ => ?_)
  refine lv_aload_n hx hb dX4_init_21 rfl (lv_at hl 1 rfl) ?_
  refine t_getk (ci := 4) (C := RX4) (T := TX4) (N := 3) hx hb hts iX4 hown hw rfl 0 (by decide) (hts _ tw_327) (fun _ h9 => h9) dX4_init_22 (c_a0.fld (k := 0) rfl) ?_
  refine lv_iload_n hx hb dX4_init_25 rfl (lv_at hl 0 rfl) ?_
  refine va_new (ci := 8) (fs := [.int 0, .int 0, .int 0, .int 0, .int 0, .int 0, .int 0, .null, .null, .null, .null, .null, .null]) (C := RX8) (T := TX8) (N := 13) hx hb hts iX8 tyX8 tyX8_ok hown (hts _ tw_324) (hts _ tw_215) (hts _ tw_8) hw.1 hw.2.1 hw.2.2.1 hw.2.2.2.1 hA rfl dfX8 (Nat.le_of_ble_eq_true rfl) (Nat.le_of_ble_eq_true rfl) dX4_init_26 (fun q_125 H hP hD hS => ?_)
  have hf := fr_new hD
  have ne_a0_q_125 : a0 ≠ q_125 := fun z => hf _ (z ▸ c_a0)
  have ne_q_1_q_125 : q_1 ≠ q_125 := fun z => hf _ (z ▸ c_q_1)
  have n_q_125 := hw.2.2.2.2.nn0 hf
  have z_q_125 := hG.fresh c_a0 hf
  have hG := hG.app (w1 := [(q_125, .inr (8, [.int 0, .int 0, .int 0, .int 0, .int 0, .int 0, .int 0, .null, .null, .null, .null, .null, .null]))])
  have c_a0 := c_a0.app (w1 := [(q_125, .inr (8, [.int 0, .int 0, .int 0, .int 0, .int 0, .int 0, .int 0, .null, .null, .null, .null, .null, .null]))])
  have c_q_1 := c_q_1.app (w1 := [(q_125, .inr (8, [.int 0, .int 0, .int 0, .int 0, .int 0, .int 0, .int 0, .null, .null, .null, .null, .null, .null]))])
  have c_q_125 : cAt (w_123 ++ [(q_125, .inr (8, [.int 0, .int 0, .int 0, .int 0, .int 0, .int 0, .int 0, .null, .null, .null, .null, .null, .null]))]) q_125 (.inr (8, [.int 0, .int 0, .int 0, .int 0, .int 0, .int 0, .int 0, .null, .null, .null, .null, .null, .null])) := cAt_last
  have hw : tW (dC, dI) y_122 κ_121 B A s (w_123 ++ [(q_125, .inr (8, [.int 0, .int 0, .int 0, .int 0, .int 0, .int 0, .int 0, .null, .null, .null, .null, .null, .null]))]) H locs := ⟨hw.1, hP, hD, hS, hw.2.2.2.2.appT SubT.rf⟩
  clear hf hP hD hS
  generalize (w_123 ++ [(q_125, .inr (8, [.int 0, .int 0, .int 0, .int 0, .int 0, .int 0, .int 0, .null, .null, .null, .null, .null, .null]))]) = w_126 at hw hG c_q_125 c_a0 c_q_1
  refine lv_dup hx hb dX4_init_29 rfl ?_
  refine t_callK (va_runI (As := []) (rest := [.ref q_125, .int 17, .ref q_1]) ⟨hx, hb, hml, hown, hts⟩ (k_X8_init l dC dI y_122 κ_121 B w_126 hw.2.2.2.2 q_125 n_q_125 c_q_125  H.size) (cwI 0 hts (gU tw_218) rfl rfl rfl (hts _ tw_8) (hts _ tw_326) (hts _ tw_217) rfl (by decide +kernel) ⟨(Nat.le_of_ble_eq_true rfl), (Nat.le_of_ble_eq_true rfl)⟩) ⟨cPre.blind, cPre.use hw.2.1 hw.1 hw.2.2.1 hE⟩ rfl rfl hl.1 rfl (lv_room (Nat.le_of_ble_eq_true rfl)) dX4_init_30 ⟨(Nat.le_of_ble_eq_true rfl), (Nat.le_of_ble_eq_true rfl)⟩) hw hA (fun _ h => h.1) (fun u H locs hp hw => ?_)
  obtain ⟨w_127, κ_128, y_129⟩ := u
  obtain ⟨_, hTs1, hGc, kn_q_125⟩ := hp
  dsimp only at hTs1 hGc kn_q_125 hw
  have hG := hG.call hGc z_q_125
  have hTs := hTs.trans hTs1
  have k_q_6 := hGc.1 _ _ k_q_6
  have k_q_13 := hGc.1 _ _ k_q_13
  have k_q_20 := hGc.1 _ _ k_q_20
  have k_q_27 := hGc.1 _ _ k_q_27
  have k_q_34 := hGc.1 _ _ k_q_34
  have k_q_41 := hGc.1 _ _ k_q_41
  have k_q_48 := hGc.1 _ _ k_q_48
  have k_q_55 := hGc.1 _ _ k_q_55
  have k_q_62 := hGc.1 _ _ k_q_62
  have k_q_69 := hGc.1 _ _ k_q_69
  have k_q_76 := hGc.1 _ _ k_q_76
  have k_q_83 := hGc.1 _ _ k_q_83
  have k_q_90 := hGc.1 _ _ k_q_90
  have k_q_97 := hGc.1 _ _ k_q_97
  have k_q_104 := hGc.1 _ _ k_q_104
  have k_q_111 := hGc.1 _ _ k_q_111
  have k_q_118 := hGc.1 _ _ k_q_118
  have n_a0 := (hGc.2 _ _ ne_a0_q_125 c_a0).2 n_a0
  have c_a0 := (hGc.2 _ _ ne_a0_q_125 c_a0).1
  have n_q_1 := (hGc.2 _ _ ne_q_1_q_125 c_q_1).2 n_q_1
  have c_q_1 := (hGc.2 _ _ ne_q_1_q_125 c_q_1).1
  have t_q_1 := t_q_1.elim (fun _ h => hTs1 _ _ h)
  have hF_q_1 := hF_q_1.ext hGc.1
  have k_q_125 := kn_q_125
  clear kn_q_125 c_q_125 n_q_125
  refine t_aastU (ci := 8) hx hb hw c_q_1 n_q_1 t_q_1 k_q_125 rfl rfl (show vp_in 17 20 from (by decide : ¬ ((17 : Int32) < 0 ∨ 20 ≤ (17 : Int32).toNatClampNeg))) dX4_init_33 (fun w_130 H locs hw hk c_q_1 => ?_)
  have hG := hG.set hk (Or.inr z_q_1)
  have c_a0 := hk _ _ ne_a0_q_1 c_a0
  have hF_q_1 := hF_q_1.up (x := 17) (by decide) k_q_125
  generalize va_up f_124 (Int32.toNatClampNeg 17) (some q_125) = f_131 at c_q_1 hF_q_1
  refine lv_iinc (v := 18) (lv' := [(1, .int 18), (0, .ref a0)]) hx hb dX4_init_34 hl (k := 0) rfl (by decide) (by decide) rfl (fun ls hl => ?_)
  refine lv_goto (tgt := 15) hx hb dX4_init_37 (by decide) ?_
  refine lv_iload_n hx hb dX4_init_15 rfl (lv_at hl 0 rfl) ?_
  refine lv_bipush (v := 20) hx hb dX4_init_16 (by decide) ?_
  refine lv_icmp_ge (tgt := 40) hx hb dX4_init_18 (by decide) (fun h => absurd h (by decide)) (fun _ => ?_)
  refine lv_aload_n hx hb dX4_init_21 rfl (lv_at hl 1 rfl) ?_
  refine t_getk (ci := 4) (C := RX4) (T := TX4) (N := 3) hx hb hts iX4 hown hw rfl 0 (by decide) (hts _ tw_327) (fun _ h9 => h9) dX4_init_22 (c_a0.fld (k := 0) rfl) ?_
  refine lv_iload_n hx hb dX4_init_25 rfl (lv_at hl 0 rfl) ?_
  refine va_new (ci := 8) (fs := [.int 0, .int 0, .int 0, .int 0, .int 0, .int 0, .int 0, .null, .null, .null, .null, .null, .null]) (C := RX8) (T := TX8) (N := 13) hx hb hts iX8 tyX8 tyX8_ok hown (hts _ tw_324) (hts _ tw_215) (hts _ tw_8) hw.1 hw.2.1 hw.2.2.1 hw.2.2.2.1 hA rfl dfX8 (Nat.le_of_ble_eq_true rfl) (Nat.le_of_ble_eq_true rfl) dX4_init_26 (fun q_132 H hP hD hS => ?_)
  have hf := fr_new hD
  have ne_a0_q_132 : a0 ≠ q_132 := fun z => hf _ (z ▸ c_a0)
  have ne_q_1_q_132 : q_1 ≠ q_132 := fun z => hf _ (z ▸ c_q_1)
  have n_q_132 := hw.2.2.2.2.nn0 hf
  have z_q_132 := hG.fresh c_a0 hf
  have hG := hG.app (w1 := [(q_132, .inr (8, [.int 0, .int 0, .int 0, .int 0, .int 0, .int 0, .int 0, .null, .null, .null, .null, .null, .null]))])
  have c_a0 := c_a0.app (w1 := [(q_132, .inr (8, [.int 0, .int 0, .int 0, .int 0, .int 0, .int 0, .int 0, .null, .null, .null, .null, .null, .null]))])
  have c_q_1 := c_q_1.app (w1 := [(q_132, .inr (8, [.int 0, .int 0, .int 0, .int 0, .int 0, .int 0, .int 0, .null, .null, .null, .null, .null, .null]))])
  have c_q_132 : cAt (w_130 ++ [(q_132, .inr (8, [.int 0, .int 0, .int 0, .int 0, .int 0, .int 0, .int 0, .null, .null, .null, .null, .null, .null]))]) q_132 (.inr (8, [.int 0, .int 0, .int 0, .int 0, .int 0, .int 0, .int 0, .null, .null, .null, .null, .null, .null])) := cAt_last
  have hw : tW (dC, dI) y_129 κ_128 B A s (w_130 ++ [(q_132, .inr (8, [.int 0, .int 0, .int 0, .int 0, .int 0, .int 0, .int 0, .null, .null, .null, .null, .null, .null]))]) H locs := ⟨hw.1, hP, hD, hS, hw.2.2.2.2.appT SubT.rf⟩
  clear hf hP hD hS
  generalize (w_130 ++ [(q_132, .inr (8, [.int 0, .int 0, .int 0, .int 0, .int 0, .int 0, .int 0, .null, .null, .null, .null, .null, .null]))]) = w_133 at hw hG c_q_132 c_a0 c_q_1
  refine lv_dup hx hb dX4_init_29 rfl ?_
  refine t_callK (va_runI (As := []) (rest := [.ref q_132, .int 18, .ref q_1]) ⟨hx, hb, hml, hown, hts⟩ (k_X8_init l dC dI y_129 κ_128 B w_133 hw.2.2.2.2 q_132 n_q_132 c_q_132  H.size) (cwI 0 hts (gU tw_218) rfl rfl rfl (hts _ tw_8) (hts _ tw_326) (hts _ tw_217) rfl (by decide +kernel) ⟨(Nat.le_of_ble_eq_true rfl), (Nat.le_of_ble_eq_true rfl)⟩) ⟨cPre.blind, cPre.use hw.2.1 hw.1 hw.2.2.1 hE⟩ rfl rfl hl.1 rfl (lv_room (Nat.le_of_ble_eq_true rfl)) dX4_init_30 ⟨(Nat.le_of_ble_eq_true rfl), (Nat.le_of_ble_eq_true rfl)⟩) hw hA (fun _ h => h.1) (fun u H locs hp hw => ?_)
  obtain ⟨w_134, κ_135, y_136⟩ := u
  obtain ⟨_, hTs1, hGc, kn_q_132⟩ := hp
  dsimp only at hTs1 hGc kn_q_132 hw
  have hG := hG.call hGc z_q_132
  have hTs := hTs.trans hTs1
  have k_q_6 := hGc.1 _ _ k_q_6
  have k_q_13 := hGc.1 _ _ k_q_13
  have k_q_20 := hGc.1 _ _ k_q_20
  have k_q_27 := hGc.1 _ _ k_q_27
  have k_q_34 := hGc.1 _ _ k_q_34
  have k_q_41 := hGc.1 _ _ k_q_41
  have k_q_48 := hGc.1 _ _ k_q_48
  have k_q_55 := hGc.1 _ _ k_q_55
  have k_q_62 := hGc.1 _ _ k_q_62
  have k_q_69 := hGc.1 _ _ k_q_69
  have k_q_76 := hGc.1 _ _ k_q_76
  have k_q_83 := hGc.1 _ _ k_q_83
  have k_q_90 := hGc.1 _ _ k_q_90
  have k_q_97 := hGc.1 _ _ k_q_97
  have k_q_104 := hGc.1 _ _ k_q_104
  have k_q_111 := hGc.1 _ _ k_q_111
  have k_q_118 := hGc.1 _ _ k_q_118
  have k_q_125 := hGc.1 _ _ k_q_125
  have n_a0 := (hGc.2 _ _ ne_a0_q_132 c_a0).2 n_a0
  have c_a0 := (hGc.2 _ _ ne_a0_q_132 c_a0).1
  have n_q_1 := (hGc.2 _ _ ne_q_1_q_132 c_q_1).2 n_q_1
  have c_q_1 := (hGc.2 _ _ ne_q_1_q_132 c_q_1).1
  have t_q_1 := t_q_1.elim (fun _ h => hTs1 _ _ h)
  have hF_q_1 := hF_q_1.ext hGc.1
  have k_q_132 := kn_q_132
  clear kn_q_132 c_q_132 n_q_132
  refine t_aastU (ci := 8) hx hb hw c_q_1 n_q_1 t_q_1 k_q_132 rfl rfl (show vp_in 18 20 from (by decide : ¬ ((18 : Int32) < 0 ∨ 20 ≤ (18 : Int32).toNatClampNeg))) dX4_init_33 (fun w_137 H locs hw hk c_q_1 => ?_)
  have hG := hG.set hk (Or.inr z_q_1)
  have c_a0 := hk _ _ ne_a0_q_1 c_a0
  have hF_q_1 := hF_q_1.up (x := 18) (by decide) k_q_132
  generalize va_up f_131 (Int32.toNatClampNeg 18) (some q_132) = f_138 at c_q_1 hF_q_1
  refine lv_iinc (v := 19) (lv' := [(1, .int 19), (0, .ref a0)]) hx hb dX4_init_34 hl (k := 0) rfl (by decide) (by decide) rfl (fun ls hl => ?_)
  refine lv_goto (tgt := 15) hx hb dX4_init_37 (by decide) ?_
  refine lv_iload_n hx hb dX4_init_15 rfl (lv_at hl 0 rfl) ?_
  refine lv_bipush (v := 20) hx hb dX4_init_16 (by decide) ?_
  refine lv_icmp_ge (tgt := 40) hx hb dX4_init_18 (by decide) (fun h => absurd h (by decide)) (fun _ => ?_)
  refine lv_aload_n hx hb dX4_init_21 rfl (lv_at hl 1 rfl) ?_
  refine t_getk (ci := 4) (C := RX4) (T := TX4) (N := 3) hx hb hts iX4 hown hw rfl 0 (by decide) (hts _ tw_327) (fun _ h9 => h9) dX4_init_22 (c_a0.fld (k := 0) rfl) ?_
  refine lv_iload_n hx hb dX4_init_25 rfl (lv_at hl 0 rfl) ?_
  refine va_new (ci := 8) (fs := [.int 0, .int 0, .int 0, .int 0, .int 0, .int 0, .int 0, .null, .null, .null, .null, .null, .null]) (C := RX8) (T := TX8) (N := 13) hx hb hts iX8 tyX8 tyX8_ok hown (hts _ tw_324) (hts _ tw_215) (hts _ tw_8) hw.1 hw.2.1 hw.2.2.1 hw.2.2.2.1 hA rfl dfX8 (Nat.le_of_ble_eq_true rfl) (Nat.le_of_ble_eq_true rfl) dX4_init_26 (fun q_139 H hP hD hS => ?_)
  have hf := fr_new hD
  have ne_a0_q_139 : a0 ≠ q_139 := fun z => hf _ (z ▸ c_a0)
  have ne_q_1_q_139 : q_1 ≠ q_139 := fun z => hf _ (z ▸ c_q_1)
  have n_q_139 := hw.2.2.2.2.nn0 hf
  have z_q_139 := hG.fresh c_a0 hf
  have hG := hG.app (w1 := [(q_139, .inr (8, [.int 0, .int 0, .int 0, .int 0, .int 0, .int 0, .int 0, .null, .null, .null, .null, .null, .null]))])
  have c_a0 := c_a0.app (w1 := [(q_139, .inr (8, [.int 0, .int 0, .int 0, .int 0, .int 0, .int 0, .int 0, .null, .null, .null, .null, .null, .null]))])
  have c_q_1 := c_q_1.app (w1 := [(q_139, .inr (8, [.int 0, .int 0, .int 0, .int 0, .int 0, .int 0, .int 0, .null, .null, .null, .null, .null, .null]))])
  have c_q_139 : cAt (w_137 ++ [(q_139, .inr (8, [.int 0, .int 0, .int 0, .int 0, .int 0, .int 0, .int 0, .null, .null, .null, .null, .null, .null]))]) q_139 (.inr (8, [.int 0, .int 0, .int 0, .int 0, .int 0, .int 0, .int 0, .null, .null, .null, .null, .null, .null])) := cAt_last
  have hw : tW (dC, dI) y_136 κ_135 B A s (w_137 ++ [(q_139, .inr (8, [.int 0, .int 0, .int 0, .int 0, .int 0, .int 0, .int 0, .null, .null, .null, .null, .null, .null]))]) H locs := ⟨hw.1, hP, hD, hS, hw.2.2.2.2.appT SubT.rf⟩
  clear hf hP hD hS
  generalize (w_137 ++ [(q_139, .inr (8, [.int 0, .int 0, .int 0, .int 0, .int 0, .int 0, .int 0, .null, .null, .null, .null, .null, .null]))]) = w_140 at hw hG c_q_139 c_a0 c_q_1
  refine lv_dup hx hb dX4_init_29 rfl ?_
  refine t_callK (va_runI (As := []) (rest := [.ref q_139, .int 19, .ref q_1]) ⟨hx, hb, hml, hown, hts⟩ (k_X8_init l dC dI y_136 κ_135 B w_140 hw.2.2.2.2 q_139 n_q_139 c_q_139  H.size) (cwI 0 hts (gU tw_218) rfl rfl rfl (hts _ tw_8) (hts _ tw_326) (hts _ tw_217) rfl (by decide +kernel) ⟨(Nat.le_of_ble_eq_true rfl), (Nat.le_of_ble_eq_true rfl)⟩) ⟨cPre.blind, cPre.use hw.2.1 hw.1 hw.2.2.1 hE⟩ rfl rfl hl.1 rfl (lv_room (Nat.le_of_ble_eq_true rfl)) dX4_init_30 ⟨(Nat.le_of_ble_eq_true rfl), (Nat.le_of_ble_eq_true rfl)⟩) hw hA (fun _ h => h.1) (fun u H locs hp hw => ?_)
  obtain ⟨w_141, κ_142, y_143⟩ := u
  obtain ⟨_, hTs1, hGc, kn_q_139⟩ := hp
  dsimp only at hTs1 hGc kn_q_139 hw
  have hG := hG.call hGc z_q_139
  have hTs := hTs.trans hTs1
  have k_q_6 := hGc.1 _ _ k_q_6
  have k_q_13 := hGc.1 _ _ k_q_13
  have k_q_20 := hGc.1 _ _ k_q_20
  have k_q_27 := hGc.1 _ _ k_q_27
  have k_q_34 := hGc.1 _ _ k_q_34
  have k_q_41 := hGc.1 _ _ k_q_41
  have k_q_48 := hGc.1 _ _ k_q_48
  have k_q_55 := hGc.1 _ _ k_q_55
  have k_q_62 := hGc.1 _ _ k_q_62
  have k_q_69 := hGc.1 _ _ k_q_69
  have k_q_76 := hGc.1 _ _ k_q_76
  have k_q_83 := hGc.1 _ _ k_q_83
  have k_q_90 := hGc.1 _ _ k_q_90
  have k_q_97 := hGc.1 _ _ k_q_97
  have k_q_104 := hGc.1 _ _ k_q_104
  have k_q_111 := hGc.1 _ _ k_q_111
  have k_q_118 := hGc.1 _ _ k_q_118
  have k_q_125 := hGc.1 _ _ k_q_125
  have k_q_132 := hGc.1 _ _ k_q_132
  have n_a0 := (hGc.2 _ _ ne_a0_q_139 c_a0).2 n_a0
  have c_a0 := (hGc.2 _ _ ne_a0_q_139 c_a0).1
  have n_q_1 := (hGc.2 _ _ ne_q_1_q_139 c_q_1).2 n_q_1
  have c_q_1 := (hGc.2 _ _ ne_q_1_q_139 c_q_1).1
  have t_q_1 := t_q_1.elim (fun _ h => hTs1 _ _ h)
  have hF_q_1 := hF_q_1.ext hGc.1
  have k_q_139 := kn_q_139
  clear kn_q_139 c_q_139 n_q_139
  refine t_aastU (ci := 8) hx hb hw c_q_1 n_q_1 t_q_1 k_q_139 rfl rfl (show vp_in 19 20 from (by decide : ¬ ((19 : Int32) < 0 ∨ 20 ≤ (19 : Int32).toNatClampNeg))) dX4_init_33 (fun w_144 H locs hw hk c_q_1 => ?_)
  have hG := hG.set hk (Or.inr z_q_1)
  have c_a0 := hk _ _ ne_a0_q_1 c_a0
  have hF_q_1 := hF_q_1.up (x := 19) (by decide) k_q_139
  generalize va_up f_138 (Int32.toNatClampNeg 19) (some q_139) = f_145 at c_q_1 hF_q_1
  refine lv_iinc (v := 20) (lv' := [(1, .int 20), (0, .ref a0)]) hx hb dX4_init_34 hl (k := 0) rfl (by decide) (by decide) rfl (fun ls hl => ?_)
  refine lv_goto (tgt := 15) hx hb dX4_init_37 (by decide) ?_
  refine lv_iload_n hx hb dX4_init_15 rfl (lv_at hl 0 rfl) ?_
  refine lv_bipush (v := 20) hx hb dX4_init_16 (by decide) ?_
  refine lv_icmp_ge (tgt := 40) hx hb dX4_init_18 (by decide) (fun _ => ?_) (fun h => absurd h (by decide))
  obtain ⟨t0_q_1, ht0_q_1⟩ := t_q_1
  have hok : okE (kap κ_142 [(q_1, 32)]) y_143 B 32 (.inl (k_2, 20, .inr (.inr (.inr (.inr f_145))))) := Or.inr (Or.inr (Or.inr (Or.inl ⟨rfl, k_2, t0_q_1, f_145, ht0_q_1, rfl, hF_q_1.ext (typeE (a := q_1) (k := 32) n_q_1)⟩)))
  have hTy := typeO (k := 32) hw.2.2.2.2 n_q_1 c_q_1 hok
  clear hok
  have hw : tW (dC, dI) y_143 (kap κ_142 [(q_1, 32)]) B A s w_144 H locs := ⟨hw.1, hw.2.1, hw.2.2.1, hw.2.2.2.1, hTy⟩
  clear hTy
  have hG := hG.typz (k := 32) n_q_1 z_q_1
  have k_q_6 := typeE (a := q_1) (k := 32) n_q_1 _ _ k_q_6
  have k_q_13 := typeE (a := q_1) (k := 32) n_q_1 _ _ k_q_13
  have k_q_20 := typeE (a := q_1) (k := 32) n_q_1 _ _ k_q_20
  have k_q_27 := typeE (a := q_1) (k := 32) n_q_1 _ _ k_q_27
  have k_q_34 := typeE (a := q_1) (k := 32) n_q_1 _ _ k_q_34
  have k_q_41 := typeE (a := q_1) (k := 32) n_q_1 _ _ k_q_41
  have k_q_48 := typeE (a := q_1) (k := 32) n_q_1 _ _ k_q_48
  have k_q_55 := typeE (a := q_1) (k := 32) n_q_1 _ _ k_q_55
  have k_q_62 := typeE (a := q_1) (k := 32) n_q_1 _ _ k_q_62
  have k_q_69 := typeE (a := q_1) (k := 32) n_q_1 _ _ k_q_69
  have k_q_76 := typeE (a := q_1) (k := 32) n_q_1 _ _ k_q_76
  have k_q_83 := typeE (a := q_1) (k := 32) n_q_1 _ _ k_q_83
  have k_q_90 := typeE (a := q_1) (k := 32) n_q_1 _ _ k_q_90
  have k_q_97 := typeE (a := q_1) (k := 32) n_q_1 _ _ k_q_97
  have k_q_104 := typeE (a := q_1) (k := 32) n_q_1 _ _ k_q_104
  have k_q_111 := typeE (a := q_1) (k := 32) n_q_1 _ _ k_q_111
  have k_q_118 := typeE (a := q_1) (k := 32) n_q_1 _ _ k_q_118
  have k_q_125 := typeE (a := q_1) (k := 32) n_q_1 _ _ k_q_125
  have k_q_132 := typeE (a := q_1) (k := 32) n_q_1 _ _ k_q_132
  have k_q_139 := typeE (a := q_1) (k := 32) n_q_1 _ _ k_q_139
  have n_a0 := typeN (a := q_1) (k := 32) n_a0 ne_a0_q_1
  have k_q_1 : (kap κ_142 [(q_1, 32)]) q_1 = some 32 := typeK
  clear n_q_1
  generalize (kap κ_142 [(q_1, 32)]) = κ_146 at hw hG k_q_6 k_q_13 k_q_20 k_q_27 k_q_34 k_q_41 k_q_48 k_q_55 k_q_62 k_q_69 k_q_76 k_q_83 k_q_90 k_q_97 k_q_104 k_q_111 k_q_118 k_q_125 k_q_132 k_q_139 k_q_1 n_a0
  have hok : okE (kap κ_146 [(a0, 4)]) y_143 B 4 (.inr (4, [.ref q_1, .int 0, .int 0])) := by
    refine Or.inl ⟨rfl, _, rfl, rfl, fun j y hy => ?_⟩
    match j, hy with
    | 0, hy => cases hy; exact okV.ref (k := 32) rfl (typeE n_a0 _ _ k_q_1)
    | 1, hy => cases hy; exact okV.int rfl (by decide) (by decide)
    | 2, hy => cases hy; exact okV.int rfl (by decide) (by decide)
    | j + 3, hy => simp at hy
  have hTy := typeO (k := 4) hw.2.2.2.2 n_a0 c_a0 hok
  clear hok
  have hw : tW (dC, dI) y_143 (kap κ_146 [(a0, 4)]) B A s w_144 H locs := ⟨hw.1, hw.2.1, hw.2.2.1, hw.2.2.2.1, hTy⟩
  clear hTy
  have hG := hG.typ (k := 4) n_a0
  have k_q_6 := typeE (a := a0) (k := 4) n_a0 _ _ k_q_6
  have k_q_13 := typeE (a := a0) (k := 4) n_a0 _ _ k_q_13
  have k_q_20 := typeE (a := a0) (k := 4) n_a0 _ _ k_q_20
  have k_q_27 := typeE (a := a0) (k := 4) n_a0 _ _ k_q_27
  have k_q_34 := typeE (a := a0) (k := 4) n_a0 _ _ k_q_34
  have k_q_41 := typeE (a := a0) (k := 4) n_a0 _ _ k_q_41
  have k_q_48 := typeE (a := a0) (k := 4) n_a0 _ _ k_q_48
  have k_q_55 := typeE (a := a0) (k := 4) n_a0 _ _ k_q_55
  have k_q_62 := typeE (a := a0) (k := 4) n_a0 _ _ k_q_62
  have k_q_69 := typeE (a := a0) (k := 4) n_a0 _ _ k_q_69
  have k_q_76 := typeE (a := a0) (k := 4) n_a0 _ _ k_q_76
  have k_q_83 := typeE (a := a0) (k := 4) n_a0 _ _ k_q_83
  have k_q_90 := typeE (a := a0) (k := 4) n_a0 _ _ k_q_90
  have k_q_97 := typeE (a := a0) (k := 4) n_a0 _ _ k_q_97
  have k_q_104 := typeE (a := a0) (k := 4) n_a0 _ _ k_q_104
  have k_q_111 := typeE (a := a0) (k := 4) n_a0 _ _ k_q_111
  have k_q_118 := typeE (a := a0) (k := 4) n_a0 _ _ k_q_118
  have k_q_125 := typeE (a := a0) (k := 4) n_a0 _ _ k_q_125
  have k_q_132 := typeE (a := a0) (k := 4) n_a0 _ _ k_q_132
  have k_q_139 := typeE (a := a0) (k := 4) n_a0 _ _ k_q_139
  have k_q_1 := typeE (a := a0) (k := 4) n_a0 _ _ k_q_1
  have k_a0 : (kap κ_146 [(a0, 4)]) a0 = some 4 := typeK
  clear n_a0
  generalize (kap κ_146 [(a0, 4)]) = κ_147 at hw hG k_q_6 k_q_13 k_q_20 k_q_27 k_q_34 k_q_41 k_q_48 k_q_55 k_q_62 k_q_69 k_q_76 k_q_83 k_q_90 k_q_97 k_q_104 k_q_111 k_q_118 k_q_125 k_q_132 k_q_139 k_q_1 k_a0
  refine W.widen (k := 141) (n := 920) (Nat.le_of_ble_eq_true rfl) (Nat.le_of_ble_eq_true rfl) ?_
  exact W.vret hx hb hr (fun t ht hW => ⟨⟨(w_144, κ_147, y_143), rfl, ⟨hw.2.2.2.2, hTs, hG, k_a0⟩, by rw [ht]; exact hw.2.1, va_K.moved hW.alike hw.1, hw.2.2.1⟩, hw.2.2.2.1.F ht⟩) hw.2.2.2.1.2.2 dX4_init_40
set_option maxHeartbeats 4000000 in
set_option maxRecDepth 100000 in
theorem k_X5_init (l : Launch) (dC : Nat → ClassId) (dI : Nat → Nat → Nat) (tys : List (ClassId × FieldType)) (κ : tK) (B : Nat) (ws : va_W) (hT : Ty κ tys B ws) (a0 : Nat) (n_a0 : κ a0 = none) (c_a0 : cAt ws a0 (.inr (5, [.int 0, .int 0, .null, .null, .null, .int 0, .null, .null]))) (sz : Nat) : Met l yX5_init (ws_u yX5_init cX5_init 1 none) ({ frames := 1, cells := 5, slots := 84, locals := 28 }) (va_Pc [.ref a0] (cPre (dC, dI) tys ws sz)) (va_Qv (fun (u : va_W × tK × List (ClassId × FieldType)) => Ty u.2.1 u.2.2 B u.1 ∧ SubT tys u.2.2 ∧ Gr κ u.2.1 ws u.1 a0 ∧ u.2.1 a0 = some 5) (fun u t => cPost (dC, dI) u.2.2 u.1 (va_A ws sz) t) (va_A ws sz)) 5 84 (va_A ws sz) := by
  refine Met.ofW (cc := cX5_init) (maxL := 1) (ret := none) (by decide) rfl ?_
  intro p e s m args below meth c s₁ B0 hml hv
  obtain ⟨rfl, hsz, hP, hK, hD0, hE⟩ := hv
  have hx := B0.exec
  have hb := B0.bytes
  have hr := B0.returns
  have hts0 := atoms_spec (ws := ws_u yX5_init cX5_init 1 none) B0.pre
  have hts : ∀ w ∈ gT, w.before _ s = true := fun w h => hts0 w (List.mem_cons_of_mem _ h)
  have hown : s.vm.findClass RX5 = some m.cls := findClass_of_methodNamed B0.named
  have hin : meth.name = "<init>" := (name_of_methodNamed B0.named B0.method).1
  subst hsz
  have hD := hD0.self (sz := s.heap.size)
  generalize hAe : va_A ws s.heap.size = A at hD ⊢
  have hA : ∀ q : Nat, s.heap.size ≤ q → A q := fun q h => by rw [← hAe]; exact Or.inr h
  have hw : tW (dC, dI) tys κ B A s ws s.heap [] := ⟨hK, hP, hD, va_S.rf, hT⟩
  have hG : Gr κ κ ws ws a0 := Gr.rf
  have hTs : SubT tys tys := SubT.rf
  clear hP hK hD hD0 hts0
  have hl := lv_entry ([.ref a0]) (n := 1) (Nat.le_of_ble_eq_true rfl)
  rw [lg_entry_eq]
  generalize (lg_sl ([.ref a0]) ++ List.replicate (1 - (lg_sl ([.ref a0])).length) Slot.unset).toArray = ls at hl ⊢
  have hl : lv_has ls 1 [(0, .ref a0)] := hl
  refine lv_aload_n hx hb dX5_init_0 rfl (lv_at hl 0 rfl) ?_
  refine W.objInit hx hb hown (hts _ tw_343) (hts _ tw_28) (hts _ tw_29) rfl (by rw [hml]; exact hl.1) rfl dX5_init_1 (Nat.le_of_ble_eq_true rfl) (Nat.le_of_ble_eq_true rfl) ?_
  refine W.eq (g2 := F0 m 4 ls []) rfl ?_
  refine lv_aload_n hx hb dX5_init_4 rfl (lv_at hl 0 rfl) ?_
  refine lv_bipush (v := 36) hx hb dX5_init_5 (by decide) ?_
  refine va_newa (D := (dC, dI)) (a0 := (36, .inr (.inl (fun _ => 0)))) (N' := 36) (ty := .long) (atype := .long) hx hb (hts _ tw_205) rfl hw.1 hw.2.1 hw.2.2.1 hw.2.2.2.1 hA (fun _ => rfl) (by decide) (by decide) (Nat.le_of_ble_eq_true rfl) (Nat.le_of_ble_eq_true rfl) (Nat.le_of_ble_eq_true rfl) dX5_init_7 (fun q_1 k_2 H hK hP hD hS => ?_)
  have hf := fr_new hD
  have ne_a0_q_1 : a0 ≠ q_1 := fun z => hf _ (z ▸ c_a0)
  obtain ⟨κ_3, hTy, hEx, k_q_1, hno⟩ := newA (k := 33) hw.2.2.2.2 hD (SubT.app (t' := [(k_2, .long)])) (fun _ => Or.inr (Or.inr (Or.inl ⟨rfl, k_2, tys.length, _, at_last, rfl⟩)))
  have hG := hG.newA (w1 := [(q_1, .inl (k_2, 36, .inr (.inl (fun _ => 0))))]) hEx hno
  have n_a0 : κ_3 a0 = none := by rw [hno _ _ c_a0]; exact n_a0
  have c_a0 := c_a0.app (w1 := [(q_1, .inl (k_2, 36, .inr (.inl (fun _ => 0))))])
  have hTs := hTs.trans (SubT.app (t' := [(k_2, .long)]))
  have c_q_1 : cAt (ws ++ [(q_1, .inl (k_2, 36, .inr (.inl (fun _ => 0))))]) q_1 (.inl (k_2, 36, .inr (.inl (fun _ => 0)))) := cAt_last
  have hw : tW (dC, dI) (tys ++ [(k_2, .long)]) κ_3 B A s (ws ++ [(q_1, .inl (k_2, 36, .inr (.inl (fun _ => 0))))]) H [] := ⟨hK, hP, hD, hS, hTy⟩
  clear hf hP hD hS hEx hno hTy hK
  generalize (ws ++ [(q_1, .inl (k_2, 36, .inr (.inl (fun _ => 0))))]) = w_4 at hw hG c_q_1 c_a0
  generalize (tys ++ [(k_2, .long)]) = y_5 at hw hTs 
  clear c_q_1
  refine t_putUF (ci := 5) (v := .ref q_1) (C := RX5) (T := TX5) (N := 8) hx hb hts iX5 tyX5 tyX5_ok nmX5 hown hw c_a0 n_a0 rfl 2 (by decide) (hts _ tw_346) (fun _ h9 => h9) rfl hin rfl (tyX5_ok 2 (by decide)) rfl rfl (Nat.le_of_ble_eq_true rfl) dX5_init_9 (fun w_6 H locs hw hk c_a0 => ?_)
  have c_a0 : cAt w_6 a0 (.inr (5, [.int 0, .int 0, .ref q_1, .null, .null, .int 0, .null, .null])) := c_a0
  have hG := hG.set hk (Or.inl rfl)
  refine lv_aload_n hx hb dX5_init_12 rfl (lv_at hl 0 rfl) ?_
  refine lv_bipush (v := 6) hx hb dX5_init_13 (by decide) ?_
  refine va_newa (D := (dC, dI)) (a0 := (6, .inl (fun _ => 0))) (N' := 6) (ty := .int) (atype := .int) hx hb (hts _ tw_154) rfl hw.1 hw.2.1 hw.2.2.1 hw.2.2.2.1 hA (fun _ => rfl) (by decide) (by decide) (Nat.le_of_ble_eq_true rfl) (Nat.le_of_ble_eq_true rfl) (Nat.le_of_ble_eq_true rfl) dX5_init_15 (fun q_7 k_8 H hK hP hD hS => ?_)
  have hf := fr_new hD
  have ne_a0_q_7 : a0 ≠ q_7 := fun z => hf _ (z ▸ c_a0)
  obtain ⟨κ_9, hTy, hEx, k_q_7, hno⟩ := newA (k := 34) hw.2.2.2.2 hD (SubT.app (t' := [(k_8, .int)])) (fun _ => Or.inr (Or.inl ⟨rfl, k_8, y_5.length, _, at_last, rfl, fun j hj => ⟨(by decide : (-1 : Int) ≤ (0 : Int32).toInt), (by decide : (0 : Int32).toInt ≤ (5 : Int))⟩⟩))
  have hG := hG.newA (w1 := [(q_7, .inl (k_8, 6, .inl (fun _ => 0)))]) hEx hno
  have n_a0 : κ_9 a0 = none := by rw [hno _ _ c_a0]; exact n_a0
  have k_q_1 := hEx _ _ k_q_1
  have c_a0 := c_a0.app (w1 := [(q_7, .inl (k_8, 6, .inl (fun _ => 0)))])
  have hTs := hTs.trans (SubT.app (t' := [(k_8, .int)]))
  have c_q_7 : cAt (w_6 ++ [(q_7, .inl (k_8, 6, .inl (fun _ => 0)))]) q_7 (.inl (k_8, 6, .inl (fun _ => 0))) := cAt_last
  have hw : tW (dC, dI) (y_5 ++ [(k_8, .int)]) κ_9 B A s (w_6 ++ [(q_7, .inl (k_8, 6, .inl (fun _ => 0)))]) H locs := ⟨hK, hP, hD, hS, hTy⟩
  clear hf hP hD hS hEx hno hTy hK
  generalize (w_6 ++ [(q_7, .inl (k_8, 6, .inl (fun _ => 0)))]) = w_10 at hw hG c_q_7 c_a0
  generalize (y_5 ++ [(k_8, .int)]) = y_11 at hw hTs 
  clear c_q_7
  refine t_putUF (ci := 5) (v := .ref q_7) (C := RX5) (T := TX5) (N := 8) hx hb hts iX5 tyX5 tyX5_ok nmX5 hown hw c_a0 n_a0 rfl 3 (by decide) (hts _ tw_347) (fun _ h9 => h9) rfl hin rfl (tyX5_ok 3 (by decide)) rfl rfl (Nat.le_of_ble_eq_true rfl) dX5_init_17 (fun w_12 H locs hw hk c_a0 => ?_)
  have c_a0 : cAt w_12 a0 (.inr (5, [.int 0, .int 0, .ref q_1, .ref q_7, .null, .int 0, .null, .null])) := c_a0
  have hG := hG.set hk (Or.inl rfl)
  refine lv_aload_n hx hb dX5_init_20 rfl (lv_at hl 0 rfl) ?_
  refine lv_bipush (v := 6) hx hb dX5_init_21 (by decide) ?_
  refine va_newa (D := (dC, dI)) (a0 := (6, .inl (fun _ => 0))) (N' := 6) (ty := .int) (atype := .int) hx hb (hts _ tw_154) rfl hw.1 hw.2.1 hw.2.2.1 hw.2.2.2.1 hA (fun _ => rfl) (by decide) (by decide) (Nat.le_of_ble_eq_true rfl) (Nat.le_of_ble_eq_true rfl) (Nat.le_of_ble_eq_true rfl) dX5_init_23 (fun q_13 k_14 H hK hP hD hS => ?_)
  have hf := fr_new hD
  have ne_a0_q_13 : a0 ≠ q_13 := fun z => hf _ (z ▸ c_a0)
  obtain ⟨κ_15, hTy, hEx, k_q_13, hno⟩ := newA (k := 35) hw.2.2.2.2 hD (SubT.app (t' := [(k_14, .int)])) (fun _ => Or.inr (Or.inl ⟨rfl, k_14, y_11.length, _, at_last, rfl, fun j hj => ⟨(by decide : (-2147483648 : Int) ≤ (0 : Int32).toInt), (by decide : (0 : Int32).toInt ≤ (2147483647 : Int))⟩⟩))
  have hG := hG.newA (w1 := [(q_13, .inl (k_14, 6, .inl (fun _ => 0)))]) hEx hno
  have n_a0 : κ_15 a0 = none := by rw [hno _ _ c_a0]; exact n_a0
  have k_q_1 := hEx _ _ k_q_1
  have k_q_7 := hEx _ _ k_q_7
  have c_a0 := c_a0.app (w1 := [(q_13, .inl (k_14, 6, .inl (fun _ => 0)))])
  have hTs := hTs.trans (SubT.app (t' := [(k_14, .int)]))
  have c_q_13 : cAt (w_12 ++ [(q_13, .inl (k_14, 6, .inl (fun _ => 0)))]) q_13 (.inl (k_14, 6, .inl (fun _ => 0))) := cAt_last
  have hw : tW (dC, dI) (y_11 ++ [(k_14, .int)]) κ_15 B A s (w_12 ++ [(q_13, .inl (k_14, 6, .inl (fun _ => 0)))]) H locs := ⟨hK, hP, hD, hS, hTy⟩
  clear hf hP hD hS hEx hno hTy hK
  generalize (w_12 ++ [(q_13, .inl (k_14, 6, .inl (fun _ => 0)))]) = w_16 at hw hG c_q_13 c_a0
  generalize (y_11 ++ [(k_14, .int)]) = y_17 at hw hTs 
  clear c_q_13
  refine t_putUF (ci := 5) (v := .ref q_13) (C := RX5) (T := TX5) (N := 8) hx hb hts iX5 tyX5 tyX5_ok nmX5 hown hw c_a0 n_a0 rfl 4 (by decide) (hts _ tw_349) (fun _ h9 => h9) rfl hin rfl (tyX5_ok 4 (by decide)) rfl rfl (Nat.le_of_ble_eq_true rfl) dX5_init_25 (fun w_18 H locs hw hk c_a0 => ?_)
  have c_a0 : cAt w_18 a0 (.inr (5, [.int 0, .int 0, .ref q_1, .ref q_7, .ref q_13, .int 0, .null, .null])) := c_a0
  have hG := hG.set hk (Or.inl rfl)
  refine lv_aload_n hx hb dX5_init_28 rfl (lv_at hl 0 rfl) ?_
  refine lv_bipush (v := 11) hx hb dX5_init_29 (by decide) ?_
  refine va_newa (D := (dC, dI)) (a0 := (11, .inr (.inl (fun _ => 0)))) (N' := 11) (ty := .long) (atype := .long) hx hb (hts _ tw_205) rfl hw.1 hw.2.1 hw.2.2.1 hw.2.2.2.1 hA (fun _ => rfl) (by decide) (by decide) (Nat.le_of_ble_eq_true rfl) (Nat.le_of_ble_eq_true rfl) (Nat.le_of_ble_eq_true rfl) dX5_init_31 (fun q_19 k_20 H hK hP hD hS => ?_)
  have hf := fr_new hD
  have ne_a0_q_19 : a0 ≠ q_19 := fun z => hf _ (z ▸ c_a0)
  obtain ⟨κ_21, hTy, hEx, k_q_19, hno⟩ := newA (k := 36) hw.2.2.2.2 hD (SubT.app (t' := [(k_20, .long)])) (fun _ => Or.inr (Or.inr (Or.inl ⟨rfl, k_20, y_17.length, _, at_last, rfl⟩)))
  have hG := hG.newA (w1 := [(q_19, .inl (k_20, 11, .inr (.inl (fun _ => 0))))]) hEx hno
  have n_a0 : κ_21 a0 = none := by rw [hno _ _ c_a0]; exact n_a0
  have k_q_1 := hEx _ _ k_q_1
  have k_q_7 := hEx _ _ k_q_7
  have k_q_13 := hEx _ _ k_q_13
  have c_a0 := c_a0.app (w1 := [(q_19, .inl (k_20, 11, .inr (.inl (fun _ => 0))))])
  have hTs := hTs.trans (SubT.app (t' := [(k_20, .long)]))
  have c_q_19 : cAt (w_18 ++ [(q_19, .inl (k_20, 11, .inr (.inl (fun _ => 0))))]) q_19 (.inl (k_20, 11, .inr (.inl (fun _ => 0)))) := cAt_last
  have hw : tW (dC, dI) (y_17 ++ [(k_20, .long)]) κ_21 B A s (w_18 ++ [(q_19, .inl (k_20, 11, .inr (.inl (fun _ => 0))))]) H locs := ⟨hK, hP, hD, hS, hTy⟩
  clear hf hP hD hS hEx hno hTy hK
  generalize (w_18 ++ [(q_19, .inl (k_20, 11, .inr (.inl (fun _ => 0))))]) = w_22 at hw hG c_q_19 c_a0
  generalize (y_17 ++ [(k_20, .long)]) = y_23 at hw hTs 
  clear c_q_19
  refine t_putUF (ci := 5) (v := .ref q_19) (C := RX5) (T := TX5) (N := 8) hx hb hts iX5 tyX5 tyX5_ok nmX5 hown hw c_a0 n_a0 rfl 6 (by decide) (hts _ tw_354) (fun _ h9 => h9) rfl hin rfl (tyX5_ok 6 (by decide)) rfl rfl (Nat.le_of_ble_eq_true rfl) dX5_init_33 (fun w_24 H locs hw hk c_a0 => ?_)
  have c_a0 : cAt w_24 a0 (.inr (5, [.int 0, .int 0, .ref q_1, .ref q_7, .ref q_13, .int 0, .ref q_19, .null])) := c_a0
  have hG := hG.set hk (Or.inl rfl)
  refine lv_aload_n hx hb dX5_init_36 rfl (lv_at hl 0 rfl) ?_
  refine lv_bipush (v := 25) hx hb dX5_init_37 (by decide) ?_
  refine va_newa (D := (dC, dI)) (a0 := (25, .inl (fun _ => 0))) (N' := 25) (ty := .int) (atype := .int) hx hb (hts _ tw_154) rfl hw.1 hw.2.1 hw.2.2.1 hw.2.2.2.1 hA (fun _ => rfl) (by decide) (by decide) (Nat.le_of_ble_eq_true rfl) (Nat.le_of_ble_eq_true rfl) (Nat.le_of_ble_eq_true rfl) dX5_init_39 (fun q_25 k_26 H hK hP hD hS => ?_)
  have hf := fr_new hD
  have ne_a0_q_25 : a0 ≠ q_25 := fun z => hf _ (z ▸ c_a0)
  obtain ⟨κ_27, hTy, hEx, k_q_25, hno⟩ := newA (k := 37) hw.2.2.2.2 hD (SubT.app (t' := [(k_26, .int)])) (fun _ => Or.inr (Or.inl ⟨rfl, k_26, y_23.length, _, at_last, rfl, fun j hj => ⟨(by decide : (-2147483648 : Int) ≤ (0 : Int32).toInt), (by decide : (0 : Int32).toInt ≤ (2147483647 : Int))⟩⟩))
  have hG := hG.newA (w1 := [(q_25, .inl (k_26, 25, .inl (fun _ => 0)))]) hEx hno
  have n_a0 : κ_27 a0 = none := by rw [hno _ _ c_a0]; exact n_a0
  have k_q_1 := hEx _ _ k_q_1
  have k_q_7 := hEx _ _ k_q_7
  have k_q_13 := hEx _ _ k_q_13
  have k_q_19 := hEx _ _ k_q_19
  have c_a0 := c_a0.app (w1 := [(q_25, .inl (k_26, 25, .inl (fun _ => 0)))])
  have hTs := hTs.trans (SubT.app (t' := [(k_26, .int)]))
  have c_q_25 : cAt (w_24 ++ [(q_25, .inl (k_26, 25, .inl (fun _ => 0)))]) q_25 (.inl (k_26, 25, .inl (fun _ => 0))) := cAt_last
  have hw : tW (dC, dI) (y_23 ++ [(k_26, .int)]) κ_27 B A s (w_24 ++ [(q_25, .inl (k_26, 25, .inl (fun _ => 0)))]) H locs := ⟨hK, hP, hD, hS, hTy⟩
  clear hf hP hD hS hEx hno hTy hK
  generalize (w_24 ++ [(q_25, .inl (k_26, 25, .inl (fun _ => 0)))]) = w_28 at hw hG c_q_25 c_a0
  generalize (y_23 ++ [(k_26, .int)]) = y_29 at hw hTs 
  clear c_q_25
  refine t_putUF (ci := 5) (v := .ref q_25) (C := RX5) (T := TX5) (N := 8) hx hb hts iX5 tyX5 tyX5_ok nmX5 hown hw c_a0 n_a0 rfl 7 (by decide) (hts _ tw_355) (fun _ h9 => h9) rfl hin rfl (tyX5_ok 7 (by decide)) rfl rfl (Nat.le_of_ble_eq_true rfl) dX5_init_41 (fun w_30 H locs hw hk c_a0 => ?_)
  have c_a0 : cAt w_30 a0 (.inr (5, [.int 0, .int 0, .ref q_1, .ref q_7, .ref q_13, .int 0, .ref q_19, .ref q_25])) := c_a0
  have hG := hG.set hk (Or.inl rfl)
  have hok : okE (kap κ_27 [(a0, 5)]) y_29 B 5 (.inr (5, [.int 0, .int 0, .ref q_1, .ref q_7, .ref q_13, .int 0, .ref q_19, .ref q_25])) := by
    refine Or.inl ⟨rfl, _, rfl, rfl, fun j y hy => ?_⟩
    match j, hy with
    | 0, hy => cases hy; exact okV.int rfl (by decide) (by decide)
    | 1, hy => cases hy; exact okV.int rfl (by decide) (by decide)
    | 2, hy => cases hy; exact okV.ref (k := 33) rfl (typeE n_a0 _ _ k_q_1)
    | 3, hy => cases hy; exact okV.ref (k := 34) rfl (typeE n_a0 _ _ k_q_7)
    | 4, hy => cases hy; exact okV.ref (k := 35) rfl (typeE n_a0 _ _ k_q_13)
    | 5, hy => cases hy; exact okV.int rfl (by decide) (by decide)
    | 6, hy => cases hy; exact okV.ref (k := 36) rfl (typeE n_a0 _ _ k_q_19)
    | 7, hy => cases hy; exact okV.ref (k := 37) rfl (typeE n_a0 _ _ k_q_25)
    | j + 8, hy => simp at hy
  have hTy := typeO (k := 5) hw.2.2.2.2 n_a0 c_a0 hok
  clear hok
  have hw : tW (dC, dI) y_29 (kap κ_27 [(a0, 5)]) B A s w_30 H locs := ⟨hw.1, hw.2.1, hw.2.2.1, hw.2.2.2.1, hTy⟩
  clear hTy
  have hG := hG.typ (k := 5) n_a0
  have k_q_1 := typeE (a := a0) (k := 5) n_a0 _ _ k_q_1
  have k_q_7 := typeE (a := a0) (k := 5) n_a0 _ _ k_q_7
  have k_q_13 := typeE (a := a0) (k := 5) n_a0 _ _ k_q_13
  have k_q_19 := typeE (a := a0) (k := 5) n_a0 _ _ k_q_19
  have k_q_25 := typeE (a := a0) (k := 5) n_a0 _ _ k_q_25
  have k_a0 : (kap κ_27 [(a0, 5)]) a0 = some 5 := typeK
  clear n_a0
  generalize (kap κ_27 [(a0, 5)]) = κ_31 at hw hG k_q_1 k_q_7 k_q_13 k_q_19 k_q_25 k_a0
  refine W.widen (k := 5) (n := 84) (Nat.le_of_ble_eq_true rfl) (Nat.le_of_ble_eq_true rfl) ?_
  exact W.vret hx hb hr (fun t ht hW => ⟨⟨(w_30, κ_31, y_29), rfl, ⟨hw.2.2.2.2, hTs, hG, k_a0⟩, by rw [ht]; exact hw.2.1, va_K.moved hW.alike hw.1, hw.2.2.1⟩, hw.2.2.2.1.F ht⟩) hw.2.2.2.1.2.2 dX5_init_44
set_option maxHeartbeats 4000000 in
set_option maxRecDepth 100000 in
theorem k_X3_init (l : Launch) (dC : Nat → ClassId) (dI : Nat → Nat → Nat) (tys : List (ClassId × FieldType)) (κ : tK) (B : Nat) (ws : va_W) (hT : Ty κ tys B ws) (a0 : Nat) (n_a0 : κ a0 = none) (c_a0 : cAt ws a0 (.inr (3, [.null, .long 0, .int 0, .int 0]))) (a1 : Nat) (k_a1 : κ a1 = some 5) (sz : Nat) : Met l yX3_init (ws_u yX3_init cX3_init 2 none) ({ frames := 1, cells := 0, slots := 0, locals := 28 }) (va_Pc [.ref a0, .ref a1] (cPre (dC, dI) tys ws sz)) (va_Qv (fun (u : va_W × tK × List (ClassId × FieldType)) => Ty u.2.1 u.2.2 B u.1 ∧ SubT tys u.2.2 ∧ Gr κ u.2.1 ws u.1 a0 ∧ u.2.1 a0 = some 3) (fun u t => cPost (dC, dI) u.2.2 u.1 (va_A ws sz) t) (va_A ws sz)) 0 0 (va_A ws sz) := by
  refine Met.ofW (cc := cX3_init) (maxL := 2) (ret := none) (by decide) rfl ?_
  intro p e s m args below meth c s₁ B0 hml hv
  obtain ⟨rfl, hsz, hP, hK, hD0, hE⟩ := hv
  have hx := B0.exec
  have hb := B0.bytes
  have hr := B0.returns
  have hts0 := atoms_spec (ws := ws_u yX3_init cX3_init 2 none) B0.pre
  have hts : ∀ w ∈ gT, w.before _ s = true := fun w h => hts0 w (List.mem_cons_of_mem _ h)
  have hown : s.vm.findClass RX3 = some m.cls := findClass_of_methodNamed B0.named
  have hin : meth.name = "<init>" := (name_of_methodNamed B0.named B0.method).1
  subst hsz
  have hD := hD0.self (sz := s.heap.size)
  generalize hAe : va_A ws s.heap.size = A at hD ⊢
  have hA : ∀ q : Nat, s.heap.size ≤ q → A q := fun q h => by rw [← hAe]; exact Or.inr h
  have hw : tW (dC, dI) tys κ B A s ws s.heap [] := ⟨hK, hP, hD, va_S.rf, hT⟩
  have hG : Gr κ κ ws ws a0 := Gr.rf
  have hTs : SubT tys tys := SubT.rf
  clear hP hK hD hD0 hts0
  have hl := lv_entry ([.ref a0, .ref a1]) (n := 2) (Nat.le_of_ble_eq_true rfl)
  rw [lg_entry_eq]
  generalize (lg_sl ([.ref a0, .ref a1]) ++ List.replicate (2 - (lg_sl ([.ref a0, .ref a1])).length) Slot.unset).toArray = ls at hl ⊢
  have hl : lv_has ls 2 [(0, .ref a0), (1, .ref a1)] := hl
  refine lv_aload_n hx hb dX3_init_0 rfl (lv_at hl 0 rfl) ?_
  refine W.objInit hx hb hown (hts _ tw_378) (hts _ tw_28) (hts _ tw_29) rfl (by rw [hml]; exact hl.1) rfl dX3_init_1 (Nat.le_of_ble_eq_true rfl) (Nat.le_of_ble_eq_true rfl) ?_
  refine W.eq (g2 := F0 m 4 ls []) rfl ?_
  refine lv_aload_n hx hb dX3_init_4 rfl (lv_at hl 0 rfl) ?_
  refine lv_aload_n hx hb dX3_init_5 rfl (lv_at hl 1 rfl) ?_
  refine t_putUF (ci := 3) (v := .ref a1) (C := RX3) (T := TX3) (N := 4) hx hb hts iX3 tyX3 tyX3_ok nmX3 hown hw c_a0 n_a0 rfl 0 (by decide) (hts _ tw_379) (fun _ h9 => h9) rfl hin rfl (tyX3_ok 0 (by decide)) rfl rfl (Nat.le_of_ble_eq_true rfl) dX3_init_6 (fun w_1 H locs hw hk c_a0 => ?_)
  have c_a0 : cAt w_1 a0 (.inr (3, [.ref a1, .long 0, .int 0, .int 0])) := c_a0
  have hG := hG.set hk (Or.inl rfl)
  have hok : okE (kap κ [(a0, 3)]) tys B 3 (.inr (3, [.ref a1, .long 0, .int 0, .int 0])) := by
    refine Or.inl ⟨rfl, _, rfl, rfl, fun j y hy => ?_⟩
    match j, hy with
    | 0, hy => cases hy; exact okV.ref (k := 5) rfl (typeE n_a0 _ _ k_a1)
    | 1, hy => cases hy; exact okV.long rfl
    | 2, hy => cases hy; exact okV.int rfl (by decide) (by decide)
    | 3, hy => cases hy; exact okV.int rfl (by decide) (by decide)
    | j + 4, hy => simp at hy
  have hTy := typeO (k := 3) hw.2.2.2.2 n_a0 c_a0 hok
  clear hok
  have hw : tW (dC, dI) tys (kap κ [(a0, 3)]) B A s w_1 H locs := ⟨hw.1, hw.2.1, hw.2.2.1, hw.2.2.2.1, hTy⟩
  clear hTy
  have hG := hG.typ (k := 3) n_a0
  have k_a1 := typeE (a := a0) (k := 3) n_a0 _ _ k_a1
  have k_a0 : (kap κ [(a0, 3)]) a0 = some 3 := typeK
  clear n_a0
  generalize (kap κ [(a0, 3)]) = κ_2 at hw hG k_a1 k_a0
  refine W.widen (k := 0) (n := 0) (Nat.le_of_ble_eq_true rfl) (Nat.le_of_ble_eq_true rfl) ?_
  exact W.vret hx hb hr (fun t ht hW => ⟨⟨(w_1, κ_2, tys), rfl, ⟨hw.2.2.2.2, hTs, hG, k_a0⟩, by rw [ht]; exact hw.2.1, va_K.moved hW.alike hw.1, hw.2.2.1⟩, hw.2.2.2.1.F ht⟩) hw.2.2.2.1.2.2 dX3_init_9
set_option maxHeartbeats 4000000 in
set_option maxRecDepth 100000 in
theorem k_X2_init (l : Launch) (dC : Nat → ClassId) (dI : Nat → Nat → Nat) (tys : List (ClassId × FieldType)) (κ : tK) (B : Nat) (ws : va_W) (hT : Ty κ tys B ws) (a0 : Nat) (n_a0 : κ a0 = none) (c_a0 : cAt ws a0 (.inr (2, [.null, .null, .null, .null, .int 0]))) (a1 : Nat) (k_a1 : κ a1 = some 3) (sz : Nat) : Met l yX2_init (ws_u yX2_init cX2_init 2 none) ({ frames := 2, cells := 9, slots := 479, locals := 48 }) (va_Pc [.ref a0, .ref a1] (cPre (dC, dI) tys ws sz)) (va_Qv (fun (u : va_W × tK × List (ClassId × FieldType)) => Ty u.2.1 u.2.2 B u.1 ∧ SubT tys u.2.2 ∧ Gr κ u.2.1 ws u.1 a0 ∧ u.2.1 a0 = some 2) (fun u t => cPost (dC, dI) u.2.2 u.1 (va_A ws sz) t) (va_A ws sz)) 9 479 (va_A ws sz) := by
  refine Met.ofW (cc := cX2_init) (maxL := 2) (ret := none) (by decide) rfl ?_
  intro p e s m args below meth c s₁ B0 hml hv
  obtain ⟨rfl, hsz, hP, hK, hD0, hE⟩ := hv
  have hx := B0.exec
  have hb := B0.bytes
  have hr := B0.returns
  have hts0 := atoms_spec (ws := ws_u yX2_init cX2_init 2 none) B0.pre
  have hts : ∀ w ∈ gT, w.before _ s = true := fun w h => hts0 w (List.mem_cons_of_mem _ h)
  have hown : s.vm.findClass RX2 = some m.cls := findClass_of_methodNamed B0.named
  have hin : meth.name = "<init>" := (name_of_methodNamed B0.named B0.method).1
  subst hsz
  have hD := hD0.self (sz := s.heap.size)
  generalize hAe : va_A ws s.heap.size = A at hD ⊢
  have hA : ∀ q : Nat, s.heap.size ≤ q → A q := fun q h => by rw [← hAe]; exact Or.inr h
  have hw : tW (dC, dI) tys κ B A s ws s.heap [] := ⟨hK, hP, hD, va_S.rf, hT⟩
  have hG : Gr κ κ ws ws a0 := Gr.rf
  have hTs : SubT tys tys := SubT.rf
  clear hP hK hD hD0 hts0
  have hl := lv_entry ([.ref a0, .ref a1]) (n := 2) (Nat.le_of_ble_eq_true rfl)
  rw [lg_entry_eq]
  generalize (lg_sl ([.ref a0, .ref a1]) ++ List.replicate (2 - (lg_sl ([.ref a0, .ref a1])).length) Slot.unset).toArray = ls at hl ⊢
  have hl : lv_has ls 2 [(0, .ref a0), (1, .ref a1)] := hl
  refine lv_aload_n hx hb dX2_init_0 rfl (lv_at hl 0 rfl) ?_
  refine W.objInit hx hb hown (hts _ tw_399) (hts _ tw_28) (hts _ tw_29) rfl (by rw [hml]; exact hl.1) rfl dX2_init_1 (Nat.le_of_ble_eq_true rfl) (Nat.le_of_ble_eq_true rfl) ?_
  refine W.eq (g2 := F0 m 4 ls []) rfl ?_
  refine lv_aload_n hx hb dX2_init_4 rfl (lv_at hl 0 rfl) ?_
  refine lv_aload_n hx hb dX2_init_5 rfl (lv_at hl 1 rfl) ?_
  refine t_putUF (ci := 2) (v := .ref a1) (C := RX2) (T := TX2) (N := 5) hx hb hts iX2 tyX2 tyX2_ok nmX2 hown hw c_a0 n_a0 rfl 0 (by decide) (hts _ tw_404) (fun _ h9 => h9) rfl hin rfl (tyX2_ok 0 (by decide)) rfl rfl (Nat.le_of_ble_eq_true rfl) dX2_init_6 (fun w_1 H locs hw hk c_a0 => ?_)
  have c_a0 : cAt w_1 a0 (.inr (2, [.ref a1, .null, .null, .null, .int 0])) := c_a0
  have hG := hG.set hk (Or.inl rfl)
  refine lv_aload_n hx hb dX2_init_9 rfl (lv_at hl 0 rfl) ?_
  refine va_new (ci := 8) (fs := [.int 0, .int 0, .int 0, .int 0, .int 0, .int 0, .int 0, .null, .null, .null, .null, .null, .null]) (C := RX8) (T := TX8) (N := 13) hx hb hts iX8 tyX8 tyX8_ok hown (hts _ tw_400) (hts _ tw_215) (hts _ tw_8) hw.1 hw.2.1 hw.2.2.1 hw.2.2.2.1 hA rfl dfX8 (Nat.le_of_ble_eq_true rfl) (Nat.le_of_ble_eq_true rfl) dX2_init_10 (fun q_2 H hP hD hS => ?_)
  have hf := fr_new hD
  have ne_a0_q_2 : a0 ≠ q_2 := fun z => hf _ (z ▸ c_a0)
  have n_q_2 := hw.2.2.2.2.nn0 hf
  have z_q_2 := hG.fresh c_a0 hf
  have hG := hG.app (w1 := [(q_2, .inr (8, [.int 0, .int 0, .int 0, .int 0, .int 0, .int 0, .int 0, .null, .null, .null, .null, .null, .null]))])
  have c_a0 := c_a0.app (w1 := [(q_2, .inr (8, [.int 0, .int 0, .int 0, .int 0, .int 0, .int 0, .int 0, .null, .null, .null, .null, .null, .null]))])
  have c_q_2 : cAt (w_1 ++ [(q_2, .inr (8, [.int 0, .int 0, .int 0, .int 0, .int 0, .int 0, .int 0, .null, .null, .null, .null, .null, .null]))]) q_2 (.inr (8, [.int 0, .int 0, .int 0, .int 0, .int 0, .int 0, .int 0, .null, .null, .null, .null, .null, .null])) := cAt_last
  have hw : tW (dC, dI) tys κ B A s (w_1 ++ [(q_2, .inr (8, [.int 0, .int 0, .int 0, .int 0, .int 0, .int 0, .int 0, .null, .null, .null, .null, .null, .null]))]) H locs := ⟨hw.1, hP, hD, hS, hw.2.2.2.2.appT SubT.rf⟩
  clear hf hP hD hS
  generalize (w_1 ++ [(q_2, .inr (8, [.int 0, .int 0, .int 0, .int 0, .int 0, .int 0, .int 0, .null, .null, .null, .null, .null, .null]))]) = w_3 at hw hG c_q_2 c_a0
  refine lv_dup hx hb dX2_init_13 rfl ?_
  refine t_callK (va_runI (As := []) (rest := [.ref q_2, .ref a0]) ⟨hx, hb, hml, hown, hts⟩ (k_X8_init l dC dI tys κ B w_3 hw.2.2.2.2 q_2 n_q_2 c_q_2  H.size) (cwI 0 hts (gU tw_218) rfl rfl rfl (hts _ tw_8) (hts _ tw_401) (hts _ tw_217) rfl (by decide +kernel) ⟨(Nat.le_of_ble_eq_true rfl), (Nat.le_of_ble_eq_true rfl)⟩) ⟨cPre.blind, cPre.use hw.2.1 hw.1 hw.2.2.1 hE⟩ rfl rfl hl.1 rfl (lv_room (Nat.le_of_ble_eq_true rfl)) dX2_init_14 ⟨(Nat.le_of_ble_eq_true rfl), (Nat.le_of_ble_eq_true rfl)⟩) hw hA (fun _ h => h.1) (fun u H locs hp hw => ?_)
  obtain ⟨w_4, κ_5, y_6⟩ := u
  obtain ⟨_, hTs1, hGc, kn_q_2⟩ := hp
  dsimp only at hTs1 hGc kn_q_2 hw
  have hG := hG.call hGc z_q_2
  have hTs := hTs.trans hTs1
  have k_a1 := hGc.1 _ _ k_a1
  have n_a0 := (hGc.2 _ _ ne_a0_q_2 c_a0).2 n_a0
  have c_a0 := (hGc.2 _ _ ne_a0_q_2 c_a0).1
  have k_q_2 := kn_q_2
  clear kn_q_2 c_q_2 n_q_2
  refine t_putUF (ci := 2) (v := .ref q_2) (C := RX2) (T := TX2) (N := 5) hx hb hts iX2 tyX2 tyX2_ok nmX2 hown hw c_a0 n_a0 rfl 1 (by decide) (hts _ tw_405) (fun _ h9 => h9) rfl hin rfl (tyX2_ok 1 (by decide)) rfl rfl (Nat.le_of_ble_eq_true rfl) dX2_init_17 (fun w_7 H locs hw hk c_a0 => ?_)
  have c_a0 : cAt w_7 a0 (.inr (2, [.ref a1, .ref q_2, .null, .null, .int 0])) := c_a0
  have hG := hG.set hk (Or.inl rfl)
  refine lv_aload_n hx hb dX2_init_20 rfl (lv_at hl 0 rfl) ?_
  refine lv_sipush (v := 427) hx hb dX2_init_21 (by decide) ?_
  refine va_newa (D := (dC, dI)) (a0 := (427, .inl (fun _ => 0))) (N' := 427) (ty := .int) (atype := .int) hx hb (hts _ tw_154) rfl hw.1 hw.2.1 hw.2.2.1 hw.2.2.2.1 hA (fun _ => rfl) (by decide) (by decide) (Nat.le_of_ble_eq_true rfl) (Nat.le_of_ble_eq_true rfl) (Nat.le_of_ble_eq_true rfl) dX2_init_24 (fun q_8 k_9 H hK hP hD hS => ?_)
  have hf := fr_new hD
  have ne_a0_q_8 : a0 ≠ q_8 := fun z => hf _ (z ▸ c_a0)
  obtain ⟨κ_10, hTy, hEx, k_q_8, hno⟩ := newA (k := 30) hw.2.2.2.2 hD (SubT.app (t' := [(k_9, .int)])) (fun _ => Or.inr (Or.inl ⟨rfl, k_9, y_6.length, _, at_last, rfl, fun j hj => ⟨(by decide : (-2147483648 : Int) ≤ (0 : Int32).toInt), (by decide : (0 : Int32).toInt ≤ (2147483647 : Int))⟩⟩))
  have hG := hG.newA (w1 := [(q_8, .inl (k_9, 427, .inl (fun _ => 0)))]) hEx hno
  have n_a0 : κ_10 a0 = none := by rw [hno _ _ c_a0]; exact n_a0
  have k_a1 := hEx _ _ k_a1
  have k_q_2 := hEx _ _ k_q_2
  have c_a0 := c_a0.app (w1 := [(q_8, .inl (k_9, 427, .inl (fun _ => 0)))])
  have hTs := hTs.trans (SubT.app (t' := [(k_9, .int)]))
  have c_q_8 : cAt (w_7 ++ [(q_8, .inl (k_9, 427, .inl (fun _ => 0)))]) q_8 (.inl (k_9, 427, .inl (fun _ => 0))) := cAt_last
  have hw : tW (dC, dI) (y_6 ++ [(k_9, .int)]) κ_10 B A s (w_7 ++ [(q_8, .inl (k_9, 427, .inl (fun _ => 0)))]) H locs := ⟨hK, hP, hD, hS, hTy⟩
  clear hf hP hD hS hEx hno hTy hK
  generalize (w_7 ++ [(q_8, .inl (k_9, 427, .inl (fun _ => 0)))]) = w_11 at hw hG c_q_8 c_a0
  generalize (y_6 ++ [(k_9, .int)]) = y_12 at hw hTs 
  clear c_q_8
  refine t_putUF (ci := 2) (v := .ref q_8) (C := RX2) (T := TX2) (N := 5) hx hb hts iX2 tyX2 tyX2_ok nmX2 hown hw c_a0 n_a0 rfl 2 (by decide) (hts _ tw_406) (fun _ h9 => h9) rfl hin rfl (tyX2_ok 2 (by decide)) rfl rfl (Nat.le_of_ble_eq_true rfl) dX2_init_26 (fun w_13 H locs hw hk c_a0 => ?_)
  have c_a0 : cAt w_13 a0 (.inr (2, [.ref a1, .ref q_2, .ref q_8, .null, .int 0])) := c_a0
  have hG := hG.set hk (Or.inl rfl)
  refine lv_aload_n hx hb dX2_init_29 rfl (lv_at hl 0 rfl) ?_
  refine lv_bipush (v := 7) hx hb dX2_init_30 (by decide) ?_
  refine va_newq (D := (dC, dI)) (C := RX0) (N' := 7) hx hb hown (hts _ tw_402) hE.aoX0 hw.1 hw.2.1 hw.2.2.1 hw.2.2.2.1 hA (by decide) (by decide) (Nat.le_of_ble_eq_true rfl) (Nat.le_of_ble_eq_true rfl) (Nat.le_of_ble_eq_true rfl) dX2_init_32 (fun q_14 k_15 H hK hP hD hS => ?_)
  have hf := fr_new hD
  have ne_a0_q_14 : a0 ≠ q_14 := fun z => hf _ (z ▸ c_a0)
  obtain ⟨κ_16, hTy, hEx, k_q_14, hno⟩ := newA (k := 31) hw.2.2.2.2 hD (SubT.app (t' := [(k_15, .object RX0)])) (fun _ => Or.inr (Or.inr (Or.inr (Or.inr ⟨rfl, k_15, y_12.length, _, at_last, rfl, fun j _ q hq => by cases hq⟩))))
  have hG := hG.newA (w1 := [(q_14, .inl (k_15, 7, .inr (.inr (.inr (.inr (fun _ => none))))))]) hEx hno
  have n_a0 : κ_16 a0 = none := by rw [hno _ _ c_a0]; exact n_a0
  have k_a1 := hEx _ _ k_a1
  have k_q_2 := hEx _ _ k_q_2
  have k_q_8 := hEx _ _ k_q_8
  have c_a0 := c_a0.app (w1 := [(q_14, .inl (k_15, 7, .inr (.inr (.inr (.inr (fun _ => none))))))])
  have hTs := hTs.trans (SubT.app (t' := [(k_15, .object RX0)]))
  have c_q_14 : cAt (w_13 ++ [(q_14, .inl (k_15, 7, .inr (.inr (.inr (.inr (fun _ => none))))))]) q_14 (.inl (k_15, 7, .inr (.inr (.inr (.inr (fun _ => none)))))) := cAt_last
  have hw : tW (dC, dI) (y_12 ++ [(k_15, .object RX0)]) κ_16 B A s (w_13 ++ [(q_14, .inl (k_15, 7, .inr (.inr (.inr (.inr (fun _ => none))))))]) H locs := ⟨hK, hP, hD, hS, hTy⟩
  clear hf hP hD hS hEx hno hTy hK
  generalize (w_13 ++ [(q_14, .inl (k_15, 7, .inr (.inr (.inr (.inr (fun _ => none))))))]) = w_17 at hw hG c_q_14 c_a0
  generalize (y_12 ++ [(k_15, .object RX0)]) = y_18 at hw hTs 
  clear c_q_14
  refine t_putUF (ci := 2) (v := .ref q_14) (C := RX2) (T := TX2) (N := 5) hx hb hts iX2 tyX2 tyX2_ok nmX2 hown hw c_a0 n_a0 rfl 3 (by decide) (hts _ tw_407) (fun _ h9 => h9) rfl hin rfl (tyX2_ok 3 (by decide)) rfl rfl (Nat.le_of_ble_eq_true rfl) dX2_init_35 (fun w_19 H locs hw hk c_a0 => ?_)
  have c_a0 : cAt w_19 a0 (.inr (2, [.ref a1, .ref q_2, .ref q_8, .ref q_14, .int 0])) := c_a0
  have hG := hG.set hk (Or.inl rfl)
  have hok : okE (kap κ_16 [(a0, 2)]) y_18 B 2 (.inr (2, [.ref a1, .ref q_2, .ref q_8, .ref q_14, .int 0])) := by
    refine Or.inl ⟨rfl, _, rfl, rfl, fun j y hy => ?_⟩
    match j, hy with
    | 0, hy => cases hy; exact okV.ref (k := 3) rfl (typeE n_a0 _ _ k_a1)
    | 1, hy => cases hy; exact okV.ref (k := 8) rfl (typeE n_a0 _ _ k_q_2)
    | 2, hy => cases hy; exact okV.ref (k := 30) rfl (typeE n_a0 _ _ k_q_8)
    | 3, hy => cases hy; exact okV.ref (k := 31) rfl (typeE n_a0 _ _ k_q_14)
    | 4, hy => cases hy; exact okV.int rfl (by decide) (by decide)
    | j + 5, hy => simp at hy
  have hTy := typeO (k := 2) hw.2.2.2.2 n_a0 c_a0 hok
  clear hok
  have hw : tW (dC, dI) y_18 (kap κ_16 [(a0, 2)]) B A s w_19 H locs := ⟨hw.1, hw.2.1, hw.2.2.1, hw.2.2.2.1, hTy⟩
  clear hTy
  have hG := hG.typ (k := 2) n_a0
  have k_a1 := typeE (a := a0) (k := 2) n_a0 _ _ k_a1
  have k_q_2 := typeE (a := a0) (k := 2) n_a0 _ _ k_q_2
  have k_q_8 := typeE (a := a0) (k := 2) n_a0 _ _ k_q_8
  have k_q_14 := typeE (a := a0) (k := 2) n_a0 _ _ k_q_14
  have k_a0 : (kap κ_16 [(a0, 2)]) a0 = some 2 := typeK
  clear n_a0
  generalize (kap κ_16 [(a0, 2)]) = κ_20 at hw hG k_a1 k_q_2 k_q_8 k_q_14 k_a0
  refine W.widen (k := 9) (n := 479) (Nat.le_of_ble_eq_true rfl) (Nat.le_of_ble_eq_true rfl) ?_
  exact W.vret hx hb hr (fun t ht hW => ⟨⟨(w_19, κ_20, y_18), rfl, ⟨hw.2.2.2.2, hTs, hG, k_a0⟩, by rw [ht]; exact hw.2.1, va_K.moved hW.alike hw.1, hw.2.2.1⟩, hw.2.2.2.1.F ht⟩) hw.2.2.2.1.2.2 dX2_init_38
