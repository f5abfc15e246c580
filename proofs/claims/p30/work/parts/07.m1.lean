theorem tw_101 : (Jvm.Cond.fieldLink "BoyBishop$Choir" (21 : Nat) "BoyBishop$Choir" "likes" "[I") ∈ gT := gT_in (List.mem_append_right _ (List.mem_append_left _ (List.mem_of_getElem? (i := 101) rfl))) rfl
theorem tw_119 : (Jvm.Cond.fieldLink "BoyBishop$Choir" (36 : Nat) "BoyBishop$Choir" "ways" "[I") ∈ gT := gT_in (List.mem_append_right _ (List.mem_append_left _ (List.mem_of_getElem? (i := 119) rfl))) rfl
theorem tw_120 : (Jvm.Cond.fieldLink "BoyBishop$Choir" (39 : Nat) "BoyBishop$Choir" "snow" "[Z") ∈ gT := gT_in (List.mem_append_right _ (List.mem_append_left _ (List.mem_of_getElem? (i := 120) rfl))) rfl
theorem tw_14 : (Jvm.Cond.initialized "java/util/Arrays") ∈ gT := gT_in (List.mem_append_right _ (List.mem_append_left _ (List.mem_of_getElem? (i := 14) rfl))) rfl
theorem tw_19 : (Jvm.Cond.initialized "java/lang/Math") ∈ gT := gT_in (List.mem_append_right _ (List.mem_append_left _ (List.mem_of_getElem? (i := 19) rfl))) rfl
theorem tw_4 : (Jvm.Cond.initialized "BoyBishop$Choir") ∈ gT := gT_in (List.mem_append_right _ (List.mem_append_left _ (List.mem_of_getElem? (i := 4) rfl))) rfl
theorem tw_488 : (Jvm.Cond.methodLink "BoyBishop$Choir" (53 : Nat) ({ cls := "java/util/Arrays", name := "fill", desc := "([II)V" } : Jvm.MethodName)) ∈ gT := gT_in (List.mem_append_right _ (List.mem_append_right _ (List.mem_append_right _ (List.mem_append_left _ (List.mem_of_getElem? (i := 8) rfl))))) rfl
theorem tw_489 : (Jvm.Cond.static ({ cls := "java/util/Arrays", name := "fill", desc := "([II)V" } : Jvm.MethodName)) ∈ gT := gT_in (List.mem_append_right _ (List.mem_append_right _ (List.mem_append_right _ (List.mem_append_left _ (List.mem_of_getElem? (i := 9) rfl))))) rfl
theorem tw_490 : (Jvm.Cond.code ({ cls := "java/util/Arrays", name := "fill", desc := "([II)V" } : Jvm.MethodName) prog_21_method_103_code (4 : Nat) (Option.none : Option Jvm.ClassFile.FieldType)) ∈ gT := gT_in (List.mem_append_right _ (List.mem_append_right _ (List.mem_append_right _ (List.mem_append_left _ (List.mem_of_getElem? (i := 10) rfl))))) rfl
theorem tw_491 : (Jvm.Cond.constant "BoyBishop$Choir" (59 : Nat) (1000000 : Int32)) ∈ gT := gT_in (List.mem_append_right _ (List.mem_append_right _ (List.mem_append_right _ (List.mem_append_left _ (List.mem_of_getElem? (i := 11) rfl))))) rfl
theorem tw_614 : (Jvm.Cond.methodLink "BoyBishop$Choir" (60 : Nat) ({ cls := "java/lang/Math", name := "min", desc := "(II)I" } : Jvm.MethodName)) ∈ gT := gT_in (List.mem_append_right _ (List.mem_append_right _ (List.mem_append_right _ (List.mem_append_left _ (List.mem_of_getElem? (i := 134) rfl))))) rfl
theorem tw_615 : (Jvm.Cond.static ({ cls := "java/lang/Math", name := "min", desc := "(II)I" } : Jvm.MethodName)) ∈ gT := gT_in (List.mem_append_right _ (List.mem_append_right _ (List.mem_append_right _ (List.mem_append_left _ (List.mem_of_getElem? (i := 135) rfl))))) rfl
theorem tw_616 : (Jvm.Cond.code ({ cls := "java/lang/Math", name := "min", desc := "(II)I" } : Jvm.MethodName) prog_16_method_69_code (2 : Nat) (Option.some Jvm.ClassFile.FieldType.int)) ∈ gT := gT_in (List.mem_append_right _ (List.mem_append_right _ (List.mem_append_right _ (List.mem_append_left _ (List.mem_of_getElem? (i := 136) rfl))))) rfl
theorem tw_76 : (Jvm.Cond.fieldLink "BoyBishop$Choir" (43 : Nat) "BoyBishop$Choir" "boys" "I") ∈ gT := gT_in (List.mem_append_right _ (List.mem_append_left _ (List.mem_of_getElem? (i := 76) rfl))) rfl
theorem tw_775 : (Jvm.Cond.constant "java/lang/Integer" (265 : Nat) (1431655765 : Int32)) ∈ gT := gT_in (List.mem_append_right _ (List.mem_append_right _ (List.mem_append_right _ (List.mem_append_right _ (List.mem_append_left _ (List.mem_of_getElem? (i := 55) rfl)))))) rfl
theorem tw_776 : (Jvm.Cond.constant "java/lang/Integer" (266 : Nat) (858993459 : Int32)) ∈ gT := gT_in (List.mem_append_right _ (List.mem_append_right _ (List.mem_append_right _ (List.mem_append_right _ (List.mem_append_left _ (List.mem_of_getElem? (i := 56) rfl)))))) rfl
theorem tw_777 : (Jvm.Cond.constant "java/lang/Integer" (267 : Nat) (252645135 : Int32)) ∈ gT := gT_in (List.mem_append_right _ (List.mem_append_right _ (List.mem_append_right _ (List.mem_append_right _ (List.mem_append_left _ (List.mem_of_getElem? (i := 57) rfl)))))) rfl
theorem tw_82 : (Jvm.Cond.fieldLink "BoyBishop$Choir" (47 : Nat) "BoyBishop$Choir" "canons" "I") ∈ gT := gT_in (List.mem_append_right _ (List.mem_append_left _ (List.mem_of_getElem? (i := 82) rfl))) rfl
theorem tw_86 : (Jvm.Cond.fieldLink "BoyBishop$Choir" (50 : Nat) "BoyBishop$Choir" "farms" "I") ∈ gT := gT_in (List.mem_append_right _ (List.mem_append_left _ (List.mem_of_getElem? (i := 86) rfl))) rfl
theorem tw_991 : (Jvm.Cond.methodLink "BoyBishop$Choir" (73 : Nat) ({ cls := "BoyBishop$Choir", name := "fewestHours", desc := "([IIII)I" } : Jvm.MethodName)) ∈ gT := gT_in (List.mem_append_right _ (List.mem_append_right _ (List.mem_append_right _ (List.mem_append_right _ (List.mem_append_right _ (List.mem_append_left _ (List.mem_of_getElem? (i := 31) rfl))))))) rfl
theorem tw_992 : (Jvm.Cond.static ({ cls := "BoyBishop$Choir", name := "fewestHours", desc := "([IIII)I" } : Jvm.MethodName)) ∈ gT := gT_in (List.mem_append_right _ (List.mem_append_right _ (List.mem_append_right _ (List.mem_append_right _ (List.mem_append_right _ (List.mem_append_left _ (List.mem_of_getElem? (i := 32) rfl))))))) rfl
theorem tw_993 : (Jvm.Cond.code ({ cls := "BoyBishop$Choir", name := "fewestHours", desc := "([IIII)I" } : Jvm.MethodName) prog_2_method_10_code (7 : Nat) (Option.some Jvm.ClassFile.FieldType.int)) ∈ gT := gT_in (List.mem_append_right _ (List.mem_append_right _ (List.mem_append_right _ (List.mem_append_right _ (List.mem_append_right _ (List.mem_append_left _ (List.mem_of_getElem? (i := 33) rfl))))))) rfl
theorem dJ6_bitCount_0f7a4_0 : decode cJ6_bitCount_0f7a4 0 = .ok (.iload_n 0, 1) := by decide +kernel
theorem dJ6_bitCount_0f7a4_1 : decode cJ6_bitCount_0f7a4 1 = .ok (.iload_n 0, 1) := by decide +kernel
theorem dJ6_bitCount_0f7a4_2 : decode cJ6_bitCount_0f7a4 2 = .ok (.iconst 1, 1) := by decide +kernel
theorem dJ6_bitCount_0f7a4_3 : decode cJ6_bitCount_0f7a4 3 = .ok (.iushr, 1) := by decide +kernel
theorem dJ6_bitCount_0f7a4_4 : decode cJ6_bitCount_0f7a4 4 = .ok (.ldc_w 265, 3) := by decide +kernel
theorem dJ6_bitCount_0f7a4_7 : decode cJ6_bitCount_0f7a4 7 = .ok (.iand, 1) := by decide +kernel
theorem dJ6_bitCount_0f7a4_8 : decode cJ6_bitCount_0f7a4 8 = .ok (.isub, 1) := by decide +kernel
theorem dJ6_bitCount_0f7a4_9 : decode cJ6_bitCount_0f7a4 9 = .ok (.istore_n 0, 1) := by decide +kernel
theorem dJ6_bitCount_0f7a4_10 : decode cJ6_bitCount_0f7a4 10 = .ok (.iload_n 0, 1) := by decide +kernel
theorem dJ6_bitCount_0f7a4_11 : decode cJ6_bitCount_0f7a4 11 = .ok (.ldc_w 266, 3) := by decide +kernel
theorem dJ6_bitCount_0f7a4_14 : decode cJ6_bitCount_0f7a4 14 = .ok (.iand, 1) := by decide +kernel
theorem dJ6_bitCount_0f7a4_15 : decode cJ6_bitCount_0f7a4 15 = .ok (.iload_n 0, 1) := by decide +kernel
theorem dJ6_bitCount_0f7a4_16 : decode cJ6_bitCount_0f7a4 16 = .ok (.iconst 2, 1) := by decide +kernel
theorem dJ6_bitCount_0f7a4_17 : decode cJ6_bitCount_0f7a4 17 = .ok (.iushr, 1) := by decide +kernel
theorem dJ6_bitCount_0f7a4_18 : decode cJ6_bitCount_0f7a4 18 = .ok (.ldc_w 266, 3) := by decide +kernel
theorem dJ6_bitCount_0f7a4_21 : decode cJ6_bitCount_0f7a4 21 = .ok (.iand, 1) := by decide +kernel
theorem dJ6_bitCount_0f7a4_22 : decode cJ6_bitCount_0f7a4 22 = .ok (.iadd, 1) := by decide +kernel
theorem dJ6_bitCount_0f7a4_23 : decode cJ6_bitCount_0f7a4 23 = .ok (.istore_n 0, 1) := by decide +kernel
theorem dJ6_bitCount_0f7a4_24 : decode cJ6_bitCount_0f7a4 24 = .ok (.iload_n 0, 1) := by decide +kernel
theorem dJ6_bitCount_0f7a4_25 : decode cJ6_bitCount_0f7a4 25 = .ok (.iload_n 0, 1) := by decide +kernel
theorem dJ6_bitCount_0f7a4_26 : decode cJ6_bitCount_0f7a4 26 = .ok (.iconst 4, 1) := by decide +kernel
theorem dJ6_bitCount_0f7a4_27 : decode cJ6_bitCount_0f7a4 27 = .ok (.iushr, 1) := by decide +kernel
theorem dJ6_bitCount_0f7a4_28 : decode cJ6_bitCount_0f7a4 28 = .ok (.iadd, 1) := by decide +kernel
theorem dJ6_bitCount_0f7a4_29 : decode cJ6_bitCount_0f7a4 29 = .ok (.ldc_w 267, 3) := by decide +kernel
theorem dJ6_bitCount_0f7a4_32 : decode cJ6_bitCount_0f7a4 32 = .ok (.iand, 1) := by decide +kernel
theorem dJ6_bitCount_0f7a4_33 : decode cJ6_bitCount_0f7a4 33 = .ok (.istore_n 0, 1) := by decide +kernel
theorem dJ6_bitCount_0f7a4_34 : decode cJ6_bitCount_0f7a4 34 = .ok (.iload_n 0, 1) := by decide +kernel
theorem dJ6_bitCount_0f7a4_35 : decode cJ6_bitCount_0f7a4 35 = .ok (.iload_n 0, 1) := by decide +kernel
theorem dJ6_bitCount_0f7a4_36 : decode cJ6_bitCount_0f7a4 36 = .ok (.bipush 8, 2) := by decide +kernel
theorem dJ6_bitCount_0f7a4_38 : decode cJ6_bitCount_0f7a4 38 = .ok (.iushr, 1) := by decide +kernel
theorem dJ6_bitCount_0f7a4_39 : decode cJ6_bitCount_0f7a4 39 = .ok (.iadd, 1) := by decide +kernel
theorem dJ6_bitCount_0f7a4_40 : decode cJ6_bitCount_0f7a4 40 = .ok (.istore_n 0, 1) := by decide +kernel
theorem dJ6_bitCount_0f7a4_41 : decode cJ6_bitCount_0f7a4 41 = .ok (.iload_n 0, 1) := by decide +kernel
theorem dJ6_bitCount_0f7a4_42 : decode cJ6_bitCount_0f7a4 42 = .ok (.iload_n 0, 1) := by decide +kernel
theorem dJ6_bitCount_0f7a4_43 : decode cJ6_bitCount_0f7a4 43 = .ok (.bipush 16, 2) := by decide +kernel
theorem dJ6_bitCount_0f7a4_45 : decode cJ6_bitCount_0f7a4 45 = .ok (.iushr, 1) := by decide +kernel
theorem dJ6_bitCount_0f7a4_46 : decode cJ6_bitCount_0f7a4 46 = .ok (.iadd, 1) := by decide +kernel
theorem dJ6_bitCount_0f7a4_47 : decode cJ6_bitCount_0f7a4 47 = .ok (.istore_n 0, 1) := by decide +kernel
theorem dJ6_bitCount_0f7a4_48 : decode cJ6_bitCount_0f7a4 48 = .ok (.iload_n 0, 1) := by decide +kernel
theorem dJ6_bitCount_0f7a4_49 : decode cJ6_bitCount_0f7a4 49 = .ok (.bipush 63, 2) := by decide +kernel
theorem dJ6_bitCount_0f7a4_51 : decode cJ6_bitCount_0f7a4 51 = .ok (.iand, 1) := by decide +kernel
theorem dJ6_bitCount_0f7a4_52 : decode cJ6_bitCount_0f7a4 52 = .ok (.ireturn, 1) := by decide +kernel
theorem dJ7_fill_53178_0 : decode cJ7_fill_53178 0 = .ok (.iconst 0, 1) := by decide +kernel
theorem dJ7_fill_53178_1 : decode cJ7_fill_53178 1 = .ok (.istore_n 2, 1) := by decide +kernel
theorem dJ7_fill_53178_2 : decode cJ7_fill_53178 2 = .ok (.aload_n 0, 1) := by decide +kernel
theorem dJ7_fill_53178_3 : decode cJ7_fill_53178 3 = .ok (.arraylength, 1) := by decide +kernel
theorem dJ7_fill_53178_4 : decode cJ7_fill_53178 4 = .ok (.istore_n 3, 1) := by decide +kernel
theorem dJ7_fill_53178_5 : decode cJ7_fill_53178 5 = .ok (.iload_n 2, 1) := by decide +kernel
theorem dJ7_fill_53178_6 : decode cJ7_fill_53178 6 = .ok (.iload_n 3, 1) := by decide +kernel
theorem dJ7_fill_53178_7 : decode cJ7_fill_53178 7 = .ok (.if_icmp .ge 13, 3) := by decide +kernel
theorem dJ7_fill_53178_10 : decode cJ7_fill_53178 10 = .ok (.aload_n 0, 1) := by decide +kernel
theorem dJ7_fill_53178_11 : decode cJ7_fill_53178 11 = .ok (.iload_n 2, 1) := by decide +kernel
theorem dJ7_fill_53178_12 : decode cJ7_fill_53178 12 = .ok (.iload_n 1, 1) := by decide +kernel
theorem dJ7_fill_53178_13 : decode cJ7_fill_53178 13 = .ok (.iastore, 1) := by decide +kernel
theorem dJ7_fill_53178_14 : decode cJ7_fill_53178 14 = .ok (.iinc 2 1, 3) := by decide +kernel
theorem dJ7_fill_53178_17 : decode cJ7_fill_53178 17 = .ok (.goto (-12), 3) := by decide +kernel
theorem dJ7_fill_53178_20 : decode cJ7_fill_53178 20 = .ok (.return_, 1) := by decide +kernel
theorem dX0_clear_0 : decode cX0_clear 0 = .ok (.aload_n 0, 1) := by decide +kernel
theorem dX0_clear_1 : decode cX0_clear 1 = .ok (.iconst 0, 1) := by decide +kernel
theorem dX0_clear_2 : decode cX0_clear 2 = .ok (.putfield 43, 3) := by decide +kernel
theorem dX0_clear_5 : decode cX0_clear 5 = .ok (.aload_n 0, 1) := by decide +kernel
theorem dX0_clear_6 : decode cX0_clear 6 = .ok (.iconst 0, 1) := by decide +kernel
theorem dX0_clear_7 : decode cX0_clear 7 = .ok (.putfield 47, 3) := by decide +kernel
theorem dX0_clear_10 : decode cX0_clear 10 = .ok (.aload_n 0, 1) := by decide +kernel
theorem dX0_clear_11 : decode cX0_clear 11 = .ok (.iconst 0, 1) := by decide +kernel
theorem dX0_clear_12 : decode cX0_clear 12 = .ok (.putfield 50, 3) := by decide +kernel
theorem dX0_clear_15 : decode cX0_clear 15 = .ok (.aload_n 0, 1) := by decide +kernel
theorem dX0_clear_16 : decode cX0_clear 16 = .ok (.getfield 21, 3) := by decide +kernel
theorem dX0_clear_19 : decode cX0_clear 19 = .ok (.iconst 0, 1) := by decide +kernel
theorem dX0_clear_20 : decode cX0_clear 20 = .ok (.invokestatic 53, 3) := by decide +kernel
theorem dX0_clear_23 : decode cX0_clear 23 = .ok (.aload_n 0, 1) := by decide +kernel
theorem dX0_clear_24 : decode cX0_clear 24 = .ok (.getfield 36, 3) := by decide +kernel
theorem dX0_clear_27 : decode cX0_clear 27 = .ok (.ldc 59, 2) := by decide +kernel
theorem dX0_clear_29 : decode cX0_clear 29 = .ok (.invokestatic 53, 3) := by decide +kernel
theorem dX0_clear_32 : decode cX0_clear 32 = .ok (.iconst 0, 1) := by decide +kernel
theorem dX0_clear_33 : decode cX0_clear 33 = .ok (.istore_n 1, 1) := by decide +kernel
theorem dX0_clear_34 : decode cX0_clear 34 = .ok (.iload_n 1, 1) := by decide +kernel
theorem dX0_clear_35 : decode cX0_clear 35 = .ok (.aload_n 0, 1) := by decide +kernel
theorem dX0_clear_36 : decode cX0_clear 36 = .ok (.getfield 39, 3) := by decide +kernel
theorem dX0_clear_39 : decode cX0_clear 39 = .ok (.arraylength, 1) := by decide +kernel
theorem dX0_clear_40 : decode cX0_clear 40 = .ok (.if_icmp .ge 16, 3) := by decide +kernel
theorem dX0_clear_43 : decode cX0_clear 43 = .ok (.aload_n 0, 1) := by decide +kernel
theorem dX0_clear_44 : decode cX0_clear 44 = .ok (.getfield 39, 3) := by decide +kernel
theorem dX0_clear_47 : decode cX0_clear 47 = .ok (.iload_n 1, 1) := by decide +kernel
theorem dX0_clear_48 : decode cX0_clear 48 = .ok (.iconst 0, 1) := by decide +kernel
theorem dX0_clear_49 : decode cX0_clear 49 = .ok (.bastore, 1) := by decide +kernel
theorem dX0_clear_50 : decode cX0_clear 50 = .ok (.iinc 1 1, 3) := by decide +kernel
theorem dX0_clear_53 : decode cX0_clear 53 = .ok (.goto (-19), 3) := by decide +kernel
theorem dX0_clear_56 : decode cX0_clear 56 = .ok (.return_, 1) := by decide +kernel
theorem dX0_fewestHours_0 : decode cX0_fewestHours 0 = .ok (.iload_n 3, 1) := by decide +kernel
theorem dX0_fewestHours_1 : decode cX0_fewestHours 1 = .ok (.ifCond .ne 12, 3) := by decide +kernel
theorem dX0_fewestHours_4 : decode cX0_fewestHours 4 = .ok (.aload_n 0, 1) := by decide +kernel
theorem dX0_fewestHours_5 : decode cX0_fewestHours 5 = .ok (.iload_n 2, 1) := by decide +kernel
theorem dX0_fewestHours_6 : decode cX0_fewestHours 6 = .ok (.bipush 7, 2) := by decide +kernel
theorem dX0_fewestHours_8 : decode cX0_fewestHours 8 = .ok (.imul, 1) := by decide +kernel
theorem dX0_fewestHours_9 : decode cX0_fewestHours 9 = .ok (.iconst 0, 1) := by decide +kernel
theorem dX0_fewestHours_10 : decode cX0_fewestHours 10 = .ok (.iadd, 1) := by decide +kernel
theorem dX0_fewestHours_11 : decode cX0_fewestHours 11 = .ok (.iaload, 1) := by decide +kernel
theorem dX0_fewestHours_12 : decode cX0_fewestHours 12 = .ok (.ireturn, 1) := by decide +kernel
theorem dX0_fewestHours_13 : decode cX0_fewestHours 13 = .ok (.ldc 59, 2) := by decide +kernel
theorem dX0_fewestHours_15 : decode cX0_fewestHours 15 = .ok (.istore 4, 2) := by decide +kernel
theorem dX0_fewestHours_17 : decode cX0_fewestHours 17 = .ok (.iconst 0, 1) := by decide +kernel
theorem dX0_fewestHours_18 : decode cX0_fewestHours 18 = .ok (.istore 5, 2) := by decide +kernel
theorem dX0_fewestHours_20 : decode cX0_fewestHours 20 = .ok (.iload 5, 2) := by decide +kernel
theorem dX0_fewestHours_22 : decode cX0_fewestHours 22 = .ok (.iload_n 1, 1) := by decide +kernel
theorem dX0_fewestHours_23 : decode cX0_fewestHours 23 = .ok (.if_icmp .ge 66, 3) := by decide +kernel
theorem dX0_fewestHours_26 : decode cX0_fewestHours 26 = .ok (.aload_n 0, 1) := by decide +kernel
theorem dX0_fewestHours_27 : decode cX0_fewestHours 27 = .ok (.iload_n 2, 1) := by decide +kernel
theorem dX0_fewestHours_28 : decode cX0_fewestHours 28 = .ok (.bipush 7, 2) := by decide +kernel
theorem dX0_fewestHours_30 : decode cX0_fewestHours 30 = .ok (.imul, 1) := by decide +kernel
theorem dX0_fewestHours_31 : decode cX0_fewestHours 31 = .ok (.iload 5, 2) := by decide +kernel
theorem dX0_fewestHours_33 : decode cX0_fewestHours 33 = .ok (.iadd, 1) := by decide +kernel
theorem dX0_fewestHours_34 : decode cX0_fewestHours 34 = .ok (.iconst 1, 1) := by decide +kernel
theorem dX0_fewestHours_35 : decode cX0_fewestHours 35 = .ok (.iadd, 1) := by decide +kernel
theorem dX0_fewestHours_36 : decode cX0_fewestHours 36 = .ok (.iaload, 1) := by decide +kernel
theorem dX0_fewestHours_37 : decode cX0_fewestHours 37 = .ok (.istore 6, 2) := by decide +kernel
theorem dX0_fewestHours_39 : decode cX0_fewestHours 39 = .ok (.iload_n 3, 1) := by decide +kernel
theorem dX0_fewestHours_40 : decode cX0_fewestHours 40 = .ok (.iload 5, 2) := by decide +kernel
theorem dX0_fewestHours_42 : decode cX0_fewestHours 42 = .ok (.ishr, 1) := by decide +kernel
theorem dX0_fewestHours_43 : decode cX0_fewestHours 43 = .ok (.iconst 1, 1) := by decide +kernel
theorem dX0_fewestHours_44 : decode cX0_fewestHours 44 = .ok (.iand, 1) := by decide +kernel
theorem dX0_fewestHours_45 : decode cX0_fewestHours 45 = .ok (.iconst 1, 1) := by decide +kernel
theorem dX0_fewestHours_46 : decode cX0_fewestHours 46 = .ok (.if_icmp .ne 37, 3) := by decide +kernel
theorem dX0_fewestHours_49 : decode cX0_fewestHours 49 = .ok (.iload 6, 2) := by decide +kernel
theorem dX0_fewestHours_51 : decode cX0_fewestHours 51 = .ok (.iload 4, 2) := by decide +kernel
theorem dX0_fewestHours_53 : decode cX0_fewestHours 53 = .ok (.if_icmp .ge 30, 3) := by decide +kernel
theorem dX0_fewestHours_56 : decode cX0_fewestHours 56 = .ok (.iload 4, 2) := by decide +kernel
theorem dX0_fewestHours_58 : decode cX0_fewestHours 58 = .ok (.iload 6, 2) := by decide +kernel
theorem dX0_fewestHours_60 : decode cX0_fewestHours 60 = .ok (.aload_n 0, 1) := by decide +kernel
theorem dX0_fewestHours_61 : decode cX0_fewestHours 61 = .ok (.iload_n 1, 1) := by decide +kernel
theorem dX0_fewestHours_62 : decode cX0_fewestHours 62 = .ok (.iload 5, 2) := by decide +kernel
theorem dX0_fewestHours_64 : decode cX0_fewestHours 64 = .ok (.iconst 1, 1) := by decide +kernel
theorem dX0_fewestHours_65 : decode cX0_fewestHours 65 = .ok (.iadd, 1) := by decide +kernel
theorem dX0_fewestHours_66 : decode cX0_fewestHours 66 = .ok (.iload_n 3, 1) := by decide +kernel
theorem dX0_fewestHours_67 : decode cX0_fewestHours 67 = .ok (.iconst 1, 1) := by decide +kernel
theorem dX0_fewestHours_68 : decode cX0_fewestHours 68 = .ok (.iload 5, 2) := by decide +kernel
theorem dX0_fewestHours_70 : decode cX0_fewestHours 70 = .ok (.ishl, 1) := by decide +kernel
theorem dX0_fewestHours_71 : decode cX0_fewestHours 71 = .ok (.iconst (-1), 1) := by decide +kernel
theorem dX0_fewestHours_72 : decode cX0_fewestHours 72 = .ok (.ixor, 1) := by decide +kernel
theorem dX0_fewestHours_73 : decode cX0_fewestHours 73 = .ok (.iand, 1) := by decide +kernel
theorem dX0_fewestHours_74 : decode cX0_fewestHours 74 = .ok (.invokestatic 73, 3) := by decide +kernel
theorem dX0_fewestHours_77 : decode cX0_fewestHours 77 = .ok (.iadd, 1) := by decide +kernel
theorem dX0_fewestHours_78 : decode cX0_fewestHours 78 = .ok (.invokestatic 60, 3) := by decide +kernel
theorem dX0_fewestHours_81 : decode cX0_fewestHours 81 = .ok (.istore 4, 2) := by decide +kernel
theorem dX0_fewestHours_83 : decode cX0_fewestHours 83 = .ok (.iinc 5 1, 3) := by decide +kernel
theorem dX0_fewestHours_86 : decode cX0_fewestHours 86 = .ok (.goto (-66), 3) := by decide +kernel
theorem dX0_fewestHours_89 : decode cX0_fewestHours 89 = .ok (.iload 4, 2) := by decide +kernel
theorem dX0_fewestHours_91 : decode cX0_fewestHours 91 = .ok (.ireturn, 1) := by decide +kernel
theorem iX0 : ∀ w ∈ u_ws RX0 TX0 16, w ∈ gT := i_of (by decide +kernel)
theorem li_0 : (0 : Int32).toInt = 0 := by decide
theorem li_1 : (1 : Int32).toInt = 1 := by decide
theorem li_1000000 : (1000000 : Int32).toInt = 1000000 := by decide
theorem li_1431655765 : (1431655765 : Int32).toInt = 1431655765 := by decide
theorem li_252645135 : (252645135 : Int32).toInt = 252645135 := by decide
theorem li_36 : (36 : Int32).toInt = 36 := by decide
theorem li_4 : (4 : Int32).toInt = 4 := by decide
theorem li_49 : (49 : Int32).toInt = 49 := by decide
theorem li_6 : (6 : Int32).toInt = 6 := by decide
theorem li_61 : (61 : Int32).toInt = 61 := by decide
theorem li_63 : (63 : Int32).toInt = 63 := by decide
theorem li_7 : (7 : Int32).toInt = 7 := by decide
theorem li_858993459 : (858993459 : Int32).toInt = 858993459 := by decide
set_option maxHeartbeats 4000000 in
set_option maxRecDepth 100000 in
theorem t_J6_bitCount_0f7a4 (l : Launch) (dC : Nat → ClassId) (dI : Nat → Nat → Nat) (tys : List (ClassId × FieldType)) (κ : tK) (B : Nat) (ws : va_W) (hT : Ty κ tys B ws) (a0 : Int32) (sz : Nat) : Met l yJ6_bitCount_0f7a4 (ws_u yJ6_bitCount_0f7a4 cJ6_bitCount_0f7a4 1 (some .int)) ({ frames := 0, cells := 0, slots := 0, locals := 0 }) (va_Pc [.int a0] (cPre (dC, dI) tys ws sz)) (va_Qi (fun (r : Int32) (w : va_W) => 0 ≤ r.toInt ∧ r.toInt ≤ 63 ∧ Ty κ tys B w ∧ Sm [] [] κ ws w) (fun w t => cPost (dC, dI) tys w (va_A ws sz) t) (va_A ws sz)) 0 0 (va_A ws sz) := by
  refine Met.ofW (cc := cJ6_bitCount_0f7a4) (maxL := 1) (ret := (some .int)) (by decide) rfl ?_
  intro p e s m args below meth c s₁ B0 hml hv
  obtain ⟨rfl, hsz, hP, hK, hD0, hE⟩ := hv
  have hx := B0.exec
  have hb := B0.bytes
  have hr := B0.returns
  have hts0 := atoms_spec (ws := ws_u yJ6_bitCount_0f7a4 cJ6_bitCount_0f7a4 1 (some .int)) B0.pre
  have hts : ∀ w ∈ gT, w.before _ s = true := fun w h => hts0 w (List.mem_cons_of_mem _ h)
  have hown : s.vm.findClass RJ6 = some m.cls := findClass_of_methodNamed B0.named
  have hlocks := B0.notSynchronized
  subst hsz
  have hD := hD0.self (sz := s.heap.size)
  generalize hAe : va_A ws s.heap.size = A at hD ⊢
  have hA : ∀ q : Nat, s.heap.size ≤ q → A q := fun q h => by rw [← hAe]; exact Or.inr h
  have hw : tW (dC, dI) tys κ B A s ws s.heap [] := ⟨hK, hP, hD, va_S.rf, hT⟩
  have hM : Sm [] [] κ ws ws := Sm.rf
  clear hP hK hD hD0 hts0
  have l_a0 := i32_lo a0
  have h_a0 := i32_hi a0
  have hl := lv_entry ([.int a0]) (n := 1) (Nat.le_of_ble_eq_true rfl)
  rw [lg_entry_eq]
  generalize (lg_sl ([.int a0]) ++ List.replicate (1 - (lg_sl ([.int a0])).length) Slot.unset).toArray = ls at hl ⊢
  have hl : lv_has ls 1 [(0, .int a0)] := hl
  refine t_start (fun QQ hQ => ?_)
  refine lv_iload_n hx hb dJ6_bitCount_0f7a4_0 rfl (lv_at hl 0 rfl) ?_
  refine lv_iload_n hx hb dJ6_bitCount_0f7a4_1 rfl (lv_at hl 0 rfl) ?_
  refine lv_iconst (v := 1) hx hb dJ6_bitCount_0f7a4_2 (by decide) ?_
  refine lv_iushr hx hb dJ6_bitCount_0f7a4_3 rfl ?_
  refine lv_topi (fun v3 e_v3 => ?_)
  have l_v3 := i32_lo v3
  have h_v3 := i32_hi v3
  refine lv_ldcw (v := 1431655765) hx hb hown (hts _ tw_775) dJ6_bitCount_0f7a4_4 ?_
  refine lv_iand hx hb dJ6_bitCount_0f7a4_7 ?_
  refine lv_topi (fun v7 e_v7 => ?_)
  have ⟨l_v7, h_v7⟩ : 0 ≤ v7.toInt ∧ v7.toInt ≤ 1431655765 := and_r e_v7 li_1431655765 (by decide)
  refine lv_isub hx hb dJ6_bitCount_0f7a4_8 ?_
  refine lv_topi (fun v8 e_v8 => ?_)
  have l_v8 := i32_lo v8
  have h_v8 := i32_hi v8
  refine lv_istore_n (lv' := [(0, .int v8)]) hx hb dJ6_bitCount_0f7a4_9 rfl hl (by decide) rfl (fun ls hl => ?_)
  refine lv_iload_n hx hb dJ6_bitCount_0f7a4_10 rfl (lv_at hl 0 rfl) ?_
  refine lv_ldcw (v := 858993459) hx hb hown (hts _ tw_776) dJ6_bitCount_0f7a4_11 ?_
  refine lv_iand hx hb dJ6_bitCount_0f7a4_14 ?_
  refine lv_topi (fun v14 e_v14 => ?_)
  have ⟨l_v14, h_v14⟩ : 0 ≤ v14.toInt ∧ v14.toInt ≤ 858993459 := and_r e_v14 li_858993459 (by decide)
  refine lv_iload_n hx hb dJ6_bitCount_0f7a4_15 rfl (lv_at hl 0 rfl) ?_
  refine lv_iconst (v := 2) hx hb dJ6_bitCount_0f7a4_16 (by decide) ?_
  refine lv_iushr hx hb dJ6_bitCount_0f7a4_17 rfl ?_
  refine lv_topi (fun v17 e_v17 => ?_)
  have l_v17 := i32_lo v17
  have h_v17 := i32_hi v17
  refine lv_ldcw (v := 858993459) hx hb hown (hts _ tw_776) dJ6_bitCount_0f7a4_18 ?_
  refine lv_iand hx hb dJ6_bitCount_0f7a4_21 ?_
  refine lv_topi (fun v21 e_v21 => ?_)
  have ⟨l_v21, h_v21⟩ : 0 ≤ v21.toInt ∧ v21.toInt ≤ 858993459 := and_r e_v21 li_858993459 (by decide)
  refine lv_iadd hx hb dJ6_bitCount_0f7a4_22 ?_
  refine lv_topi (fun v22 e_v22 => ?_)
  have e_v22 : v22.toInt = v14.toInt + v21.toInt := ad_i e_v22 rfl rfl (by omega) (by omega)
  refine lv_istore_n (lv' := [(0, .int v22)]) hx hb dJ6_bitCount_0f7a4_23 rfl hl (by decide) rfl (fun ls hl => ?_)
  refine lv_iload_n hx hb dJ6_bitCount_0f7a4_24 rfl (lv_at hl 0 rfl) ?_
  refine lv_iload_n hx hb dJ6_bitCount_0f7a4_25 rfl (lv_at hl 0 rfl) ?_
  refine lv_iconst (v := 4) hx hb dJ6_bitCount_0f7a4_26 (by decide) ?_
  refine lv_iushr hx hb dJ6_bitCount_0f7a4_27 rfl ?_
  refine lv_topi (fun v27 e_v27 => ?_)
  have l_v27 := i32_lo v27
  have h_v27 := i32_hi v27
  refine lv_iadd hx hb dJ6_bitCount_0f7a4_28 ?_
  refine lv_topi (fun v28 e_v28 => ?_)
  have l_v28 := i32_lo v28
  have h_v28 := i32_hi v28
  refine lv_ldcw (v := 252645135) hx hb hown (hts _ tw_777) dJ6_bitCount_0f7a4_29 ?_
  refine lv_iand hx hb dJ6_bitCount_0f7a4_32 ?_
  refine lv_topi (fun v32 e_v32 => ?_)
  have ⟨l_v32, h_v32⟩ : 0 ≤ v32.toInt ∧ v32.toInt ≤ 252645135 := and_r e_v32 li_252645135 (by decide)
  refine lv_istore_n (lv' := [(0, .int v32)]) hx hb dJ6_bitCount_0f7a4_33 rfl hl (by decide) rfl (fun ls hl => ?_)
  refine lv_iload_n hx hb dJ6_bitCount_0f7a4_34 rfl (lv_at hl 0 rfl) ?_
  refine lv_iload_n hx hb dJ6_bitCount_0f7a4_35 rfl (lv_at hl 0 rfl) ?_
  refine lv_bipush (v := 8) hx hb dJ6_bitCount_0f7a4_36 (by decide) ?_
  refine lv_iushr hx hb dJ6_bitCount_0f7a4_38 rfl ?_
  refine lv_topi (fun v38 e_v38 => ?_)
  have l_v38 := i32_lo v38
  have h_v38 := i32_hi v38
  refine lv_iadd hx hb dJ6_bitCount_0f7a4_39 ?_
  refine lv_topi (fun v39 e_v39 => ?_)
  have l_v39 := i32_lo v39
  have h_v39 := i32_hi v39
  refine lv_istore_n (lv' := [(0, .int v39)]) hx hb dJ6_bitCount_0f7a4_40 rfl hl (by decide) rfl (fun ls hl => ?_)
  refine lv_iload_n hx hb dJ6_bitCount_0f7a4_41 rfl (lv_at hl 0 rfl) ?_
  refine lv_iload_n hx hb dJ6_bitCount_0f7a4_42 rfl (lv_at hl 0 rfl) ?_
  refine lv_bipush (v := 16) hx hb dJ6_bitCount_0f7a4_43 (by decide) ?_
  refine lv_iushr hx hb dJ6_bitCount_0f7a4_45 rfl ?_
  refine lv_topi (fun v45 e_v45 => ?_)
  have l_v45 := i32_lo v45
  have h_v45 := i32_hi v45
  refine lv_iadd hx hb dJ6_bitCount_0f7a4_46 ?_
  refine lv_topi (fun v46 e_v46 => ?_)
  have l_v46 := i32_lo v46
  have h_v46 := i32_hi v46
  refine lv_istore_n (lv' := [(0, .int v46)]) hx hb dJ6_bitCount_0f7a4_47 rfl hl (by decide) rfl (fun ls hl => ?_)
  refine lv_iload_n hx hb dJ6_bitCount_0f7a4_48 rfl (lv_at hl 0 rfl) ?_
  refine lv_bipush (v := 63) hx hb dJ6_bitCount_0f7a4_49 (by decide) ?_
  refine lv_iand hx hb dJ6_bitCount_0f7a4_51 ?_
  refine lv_topi (fun v51 e_v51 => ?_)
  have ⟨l_v51, h_v51⟩ : 0 ≤ v51.toInt ∧ v51.toInt ≤ 63 := and_r e_v51 li_63 (by decide)
  rw [hQ]
  refine W.widen (k := 0) (n := 0) (Nat.le_refl _) (Nat.le_refl _) ?_
  exact W.iret (v := v51) hx hb hr (fun t ht hW => ⟨⟨v51, ws, rfl, ⟨(by omega), (by omega), hw.2.2.2.2, hM⟩, by rw [ht]; exact hw.2.1, va_K.moved hW.alike hw.1, hw.2.2.1⟩, hw.2.2.2.1.F ht⟩) hw.2.2.2.1.2.2 dJ6_bitCount_0f7a4_52
set_option maxHeartbeats 4000000 in
set_option maxRecDepth 100000 in
theorem t_J7_fill_53178_Choir_likes (l : Launch) (dC : Nat → ClassId) (dI : Nat → Nat → Nat) (tys : List (ClassId × FieldType)) (κ : tK) (B : Nat) (ws : va_W) (hT : Ty κ tys B ws) (a0 : Nat) (k_a0 : κ a0 = some 23) (a1 : Int32) (sz : Nat) : Met l yJ7_fill_53178 (ws_u yJ7_fill_53178 cJ7_fill_53178 4 none) ({ frames := 0, cells := 0, slots := 0, locals := 0 }) (va_Pc [.ref a0, .int a1] (cPre (dC, dI) tys ws sz)) (va_Qv (fun (w : va_W) => Ty κ tys B w ∧ Sm [] [23] κ ws w) (fun w t => cPost (dC, dI) tys w (va_A ws sz) t) (va_A ws sz)) 0 0 (va_A ws sz) := by
  refine Met.ofW (cc := cJ7_fill_53178) (maxL := 4) (ret := none) (by decide) rfl ?_
  intro p e s m args below meth c s₁ B0 hml hv
  obtain ⟨rfl, hsz, hP, hK, hD0, hE⟩ := hv
  have hx := B0.exec
  have hb := B0.bytes
  have hr := B0.returns
  have hts0 := atoms_spec (ws := ws_u yJ7_fill_53178 cJ7_fill_53178 4 none) B0.pre
  have hts : ∀ w ∈ gT, w.before _ s = true := fun w h => hts0 w (List.mem_cons_of_mem _ h)
  have hown : s.vm.findClass RJ7 = some m.cls := findClass_of_methodNamed B0.named
  have hlocks := B0.notSynchronized
  subst hsz
  have hD := hD0.self (sz := s.heap.size)
  generalize hAe : va_A ws s.heap.size = A at hD ⊢
  have hA : ∀ q : Nat, s.heap.size ≤ q → A q := fun q h => by rw [← hAe]; exact Or.inr h
  have hw : tW (dC, dI) tys κ B A s ws s.heap [] := ⟨hK, hP, hD, va_S.rf, hT⟩
  have hM : Sm [] [23] κ ws ws := Sm.rf
  clear hP hK hD hD0 hts0
  have l_a1 := i32_lo a1
  have h_a1 := i32_hi a1
  have hl := lv_entry ([.ref a0, .int a1]) (n := 4) (Nat.le_of_ble_eq_true rfl)
  rw [lg_entry_eq]
  generalize (lg_sl ([.ref a0, .int a1]) ++ List.replicate (4 - (lg_sl ([.ref a0, .int a1])).length) Slot.unset).toArray = ls at hl ⊢
  have hl : lv_has ls 4 [(0, .ref a0), (1, .int a1)] := hl
  refine t_start (fun QQ hQ => ?_)
  refine lv_iconst (v := 0) hx hb dJ7_fill_53178_0 (by decide) ?_
  refine lv_istore_n (lv' := [(2, .int 0), (0, .ref a0), (1, .int a1)]) hx hb dJ7_fill_53178_1 rfl hl (by decide) rfl (fun ls hl => ?_)
  refine lv_aload_n hx hb dJ7_fill_53178_2 rfl (lv_at hl 1 rfl) ?_
  refine t_alen (v := 36) hx hb hw k_a0 rfl (by decide) dJ7_fill_53178_3 ?_
  refine lv_istore_n (lv' := [(3, .int 36), (2, .int 0), (0, .ref a0), (1, .int a1)]) hx hb dJ7_fill_53178_4 rfl hl (by decide) rfl (fun ls hl => ?_)
  have J5 : ∀ (n : Nat) (H : Heap) (locs : List Loc) (ls : Array Slot), (∃ (w5 : va_W) (p5_l2 : Int32), tW (dC, dI) tys κ B A s w5 H locs ∧ Sm [] [23] κ ws w5 ∧ 0 ≤ p5_l2.toInt ∧ p5_l2.toInt ≤ 36 ∧ lv_has ls 4 [(0, .ref a0), (1, .int a1), (2, .int p5_l2), (3, .int 36)] ∧ (36 - p5_l2.toInt).toNat = n) → W p l e (headSpec (ws_u yJ7_fill_53178 cJ7_fill_53178 4 none) ({ frames := 0, cells := 0, slots := 0, locals := 0 })).room s m ([.ref a0, .int a1] : List Value).toArray below meth c H locs 0 0 QQ (F0 m 5 ls []) := by
    refine loopT _ ?_
    intro n_5 H locs ls hI ih_5
    obtain ⟨w5, p5_l2, hw, hM, l_p5_l2, h_p5_l2, hl, hn_5⟩ := hI
    refine lv_iload_n hx hb dJ7_fill_53178_5 rfl (lv_at hl 2 rfl) ?_
    refine lv_iload_n hx hb dJ7_fill_53178_6 rfl (lv_at hl 3 rfl) ?_
    refine lv_icmp_ge (tgt := 20) hx hb dJ7_fill_53178_7 (by decide) (fun c_7 => ?_) (fun c_7 => ?_)
    · simp only [fa_lt, fa_le, fa_eq, li_36] at c_7
      rw [hQ]
      refine W.widen (k := 0) (n := 0) (Nat.le_refl _) (Nat.le_refl _) ?_
      exact W.vret hx hb hr (fun t ht hW => ⟨⟨w5, rfl, ⟨hw.2.2.2.2, hM⟩, by rw [ht]; exact hw.2.1, va_K.moved hW.alike hw.1, hw.2.2.1⟩, hw.2.2.2.1.F ht⟩) hw.2.2.2.1.2.2 dJ7_fill_53178_20
    · simp only [fa_lt, fa_le, fa_eq, li_36] at c_7
      refine lv_aload_n hx hb dJ7_fill_53178_10 rfl (lv_at hl 0 rfl) ?_
      refine lv_iload_n hx hb dJ7_fill_53178_11 rfl (lv_at hl 2 rfl) ?_
      refine lv_iload_n hx hb dJ7_fill_53178_12 rfl (lv_at hl 1 rfl) ?_
      refine t_iast hx hb hw k_a0 rfl rfl (by omega) (show p5_l2.toInt < 36 by omega) (i32_lo _) (i32_hi _) dJ7_fill_53178_13 (fun w_1 H locs hw u => ?_)
      have hM := hM.up3 u k_a0 (by decide)
      obtain ⟨v14, e_v14⟩ : ∃ y : Int32, y = p5_l2 + 1 := ⟨_, rfl⟩
      refine lv_iinc (v := v14) (lv' := [(2, .int v14), (0, .ref a0), (1, .int a1), (3, .int 36)]) hx hb dJ7_fill_53178_14 hl (k := 2) rfl e_v14.symm (by decide) rfl (fun ls hl => ?_)
      have e_v14 : v14.toInt = p5_l2.toInt + 1 := ad_i e_v14 rfl li_1 (by omega) (by omega)
      refine lv_goto (tgt := 5) hx hb dJ7_fill_53178_17 (by decide) ?_
      exact ih_5 _ _ _ _ (by omega) ⟨w_1, v14, hw, hM, (by omega), (by omega), (lv_sub hl [1, 2, 0, 3] rfl), rfl⟩
  exact J5 _ _ _ _ ⟨ws, 0, hw, hM, (by decide), (by decide), (lv_sub hl [2, 3, 1, 0] rfl), rfl⟩
set_option maxHeartbeats 4000000 in
set_option maxRecDepth 100000 in
theorem t_J7_fill_53178_Choir_ways (l : Launch) (dC : Nat → ClassId) (dI : Nat → Nat → Nat) (tys : List (ClassId × FieldType)) (κ : tK) (B : Nat) (ws : va_W) (hT : Ty κ tys B ws) (a0 : Nat) (k_a0 : κ a0 = some 28) (a1 : Int32) (sz : Nat) : Met l yJ7_fill_53178 (ws_u yJ7_fill_53178 cJ7_fill_53178 4 none) ({ frames := 0, cells := 0, slots := 0, locals := 0 }) (va_Pc [.ref a0, .int a1] (cPre (dC, dI) tys ws sz)) (va_Qv (fun (w : va_W) => Ty κ tys B w ∧ Sm [] [28] κ ws w) (fun w t => cPost (dC, dI) tys w (va_A ws sz) t) (va_A ws sz)) 0 0 (va_A ws sz) := by
  refine Met.ofW (cc := cJ7_fill_53178) (maxL := 4) (ret := none) (by decide) rfl ?_
  intro p e s m args below meth c s₁ B0 hml hv
  obtain ⟨rfl, hsz, hP, hK, hD0, hE⟩ := hv
  have hx := B0.exec
  have hb := B0.bytes
  have hr := B0.returns
  have hts0 := atoms_spec (ws := ws_u yJ7_fill_53178 cJ7_fill_53178 4 none) B0.pre
  have hts : ∀ w ∈ gT, w.before _ s = true := fun w h => hts0 w (List.mem_cons_of_mem _ h)
  have hown : s.vm.findClass RJ7 = some m.cls := findClass_of_methodNamed B0.named
  have hlocks := B0.notSynchronized
  subst hsz
  have hD := hD0.self (sz := s.heap.size)
  generalize hAe : va_A ws s.heap.size = A at hD ⊢
  have hA : ∀ q : Nat, s.heap.size ≤ q → A q := fun q h => by rw [← hAe]; exact Or.inr h
  have hw : tW (dC, dI) tys κ B A s ws s.heap [] := ⟨hK, hP, hD, va_S.rf, hT⟩
  have hM : Sm [] [28] κ ws ws := Sm.rf
  clear hP hK hD hD0 hts0
  have l_a1 := i32_lo a1
  have h_a1 := i32_hi a1
  have hl := lv_entry ([.ref a0, .int a1]) (n := 4) (Nat.le_of_ble_eq_true rfl)
  rw [lg_entry_eq]
  generalize (lg_sl ([.ref a0, .int a1]) ++ List.replicate (4 - (lg_sl ([.ref a0, .int a1])).length) Slot.unset).toArray = ls at hl ⊢
  have hl : lv_has ls 4 [(0, .ref a0), (1, .int a1)] := hl
  refine t_start (fun QQ hQ => ?_)
  refine lv_iconst (v := 0) hx hb dJ7_fill_53178_0 (by decide) ?_
  refine lv_istore_n (lv' := [(2, .int 0), (0, .ref a0), (1, .int a1)]) hx hb dJ7_fill_53178_1 rfl hl (by decide) rfl (fun ls hl => ?_)
  refine lv_aload_n hx hb dJ7_fill_53178_2 rfl (lv_at hl 1 rfl) ?_
  refine t_alen (v := 49) hx hb hw k_a0 rfl (by decide) dJ7_fill_53178_3 ?_
  refine lv_istore_n (lv' := [(3, .int 49), (2, .int 0), (0, .ref a0), (1, .int a1)]) hx hb dJ7_fill_53178_4 rfl hl (by decide) rfl (fun ls hl => ?_)
  have J5 : ∀ (n : Nat) (H : Heap) (locs : List Loc) (ls : Array Slot), (∃ (w5 : va_W) (p5_l2 : Int32), tW (dC, dI) tys κ B A s w5 H locs ∧ Sm [] [28] κ ws w5 ∧ 0 ≤ p5_l2.toInt ∧ p5_l2.toInt ≤ 49 ∧ lv_has ls 4 [(0, .ref a0), (1, .int a1), (2, .int p5_l2), (3, .int 49)] ∧ (49 - p5_l2.toInt).toNat = n) → W p l e (headSpec (ws_u yJ7_fill_53178 cJ7_fill_53178 4 none) ({ frames := 0, cells := 0, slots := 0, locals := 0 })).room s m ([.ref a0, .int a1] : List Value).toArray below meth c H locs 0 0 QQ (F0 m 5 ls []) := by
    refine loopT _ ?_
    intro n_5 H locs ls hI ih_5
    obtain ⟨w5, p5_l2, hw, hM, l_p5_l2, h_p5_l2, hl, hn_5⟩ := hI
    refine lv_iload_n hx hb dJ7_fill_53178_5 rfl (lv_at hl 2 rfl) ?_
    refine lv_iload_n hx hb dJ7_fill_53178_6 rfl (lv_at hl 3 rfl) ?_
    refine lv_icmp_ge (tgt := 20) hx hb dJ7_fill_53178_7 (by decide) (fun c_7 => ?_) (fun c_7 => ?_)
    · simp only [fa_lt, fa_le, fa_eq, li_49] at c_7
      rw [hQ]
      refine W.widen (k := 0) (n := 0) (Nat.le_refl _) (Nat.le_refl _) ?_
      exact W.vret hx hb hr (fun t ht hW => ⟨⟨w5, rfl, ⟨hw.2.2.2.2, hM⟩, by rw [ht]; exact hw.2.1, va_K.moved hW.alike hw.1, hw.2.2.1⟩, hw.2.2.2.1.F ht⟩) hw.2.2.2.1.2.2 dJ7_fill_53178_20
    · simp only [fa_lt, fa_le, fa_eq, li_49] at c_7
      refine lv_aload_n hx hb dJ7_fill_53178_10 rfl (lv_at hl 0 rfl) ?_
      refine lv_iload_n hx hb dJ7_fill_53178_11 rfl (lv_at hl 2 rfl) ?_
      refine lv_iload_n hx hb dJ7_fill_53178_12 rfl (lv_at hl 1 rfl) ?_
      refine t_iast hx hb hw k_a0 rfl rfl (by omega) (show p5_l2.toInt < 49 by omega) (i32_lo _) (i32_hi _) dJ7_fill_53178_13 (fun w_1 H locs hw u => ?_)
      have hM := hM.up3 u k_a0 (by decide)
      obtain ⟨v14, e_v14⟩ : ∃ y : Int32, y = p5_l2 + 1 := ⟨_, rfl⟩
      refine lv_iinc (v := v14) (lv' := [(2, .int v14), (0, .ref a0), (1, .int a1), (3, .int 49)]) hx hb dJ7_fill_53178_14 hl (k := 2) rfl e_v14.symm (by decide) rfl (fun ls hl => ?_)
      have e_v14 : v14.toInt = p5_l2.toInt + 1 := ad_i e_v14 rfl li_1 (by omega) (by omega)
      refine lv_goto (tgt := 5) hx hb dJ7_fill_53178_17 (by decide) ?_
      exact ih_5 _ _ _ _ (by omega) ⟨w_1, v14, hw, hM, (by omega), (by omega), (lv_sub hl [1, 2, 0, 3] rfl), rfl⟩
  exact J5 _ _ _ _ ⟨ws, 0, hw, hM, (by decide), (by decide), (lv_sub hl [2, 3, 1, 0] rfl), rfl⟩
set_option maxHeartbeats 4000000 in
set_option maxRecDepth 100000 in
theorem t_J7_fill_53178_Poll_tally (l : Launch) (dC : Nat → ClassId) (dI : Nat → Nat → Nat) (tys : List (ClassId × FieldType)) (κ : tK) (B : Nat) (ws : va_W) (hT : Ty κ tys B ws) (a0 : Nat) (k_a0 : κ a0 = some 35) (a1 : Int32) (sz : Nat) : Met l yJ7_fill_53178 (ws_u yJ7_fill_53178 cJ7_fill_53178 4 none) ({ frames := 0, cells := 0, slots := 0, locals := 0 }) (va_Pc [.ref a0, .int a1] (cPre (dC, dI) tys ws sz)) (va_Qv (fun (w : va_W) => Ty κ tys B w ∧ Sm [] [35] κ ws w) (fun w t => cPost (dC, dI) tys w (va_A ws sz) t) (va_A ws sz)) 0 0 (va_A ws sz) := by
  refine Met.ofW (cc := cJ7_fill_53178) (maxL := 4) (ret := none) (by decide) rfl ?_
  intro p e s m args below meth c s₁ B0 hml hv
  obtain ⟨rfl, hsz, hP, hK, hD0, hE⟩ := hv
  have hx := B0.exec
  have hb := B0.bytes
  have hr := B0.returns
  have hts0 := atoms_spec (ws := ws_u yJ7_fill_53178 cJ7_fill_53178 4 none) B0.pre
  have hts : ∀ w ∈ gT, w.before _ s = true := fun w h => hts0 w (List.mem_cons_of_mem _ h)
  have hown : s.vm.findClass RJ7 = some m.cls := findClass_of_methodNamed B0.named
  have hlocks := B0.notSynchronized
  subst hsz
  have hD := hD0.self (sz := s.heap.size)
  generalize hAe : va_A ws s.heap.size = A at hD ⊢
  have hA : ∀ q : Nat, s.heap.size ≤ q → A q := fun q h => by rw [← hAe]; exact Or.inr h
  have hw : tW (dC, dI) tys κ B A s ws s.heap [] := ⟨hK, hP, hD, va_S.rf, hT⟩
  have hM : Sm [] [35] κ ws ws := Sm.rf
  clear hP hK hD hD0 hts0
  have l_a1 := i32_lo a1
  have h_a1 := i32_hi a1
  have hl := lv_entry ([.ref a0, .int a1]) (n := 4) (Nat.le_of_ble_eq_true rfl)
  rw [lg_entry_eq]
  generalize (lg_sl ([.ref a0, .int a1]) ++ List.replicate (4 - (lg_sl ([.ref a0, .int a1])).length) Slot.unset).toArray = ls at hl ⊢
  have hl : lv_has ls 4 [(0, .ref a0), (1, .int a1)] := hl
  refine t_start (fun QQ hQ => ?_)
  refine lv_iconst (v := 0) hx hb dJ7_fill_53178_0 (by decide) ?_
  refine lv_istore_n (lv' := [(2, .int 0), (0, .ref a0), (1, .int a1)]) hx hb dJ7_fill_53178_1 rfl hl (by decide) rfl (fun ls hl => ?_)
  refine lv_aload_n hx hb dJ7_fill_53178_2 rfl (lv_at hl 1 rfl) ?_
  refine t_alen (v := 6) hx hb hw k_a0 rfl (by decide) dJ7_fill_53178_3 ?_
  refine lv_istore_n (lv' := [(3, .int 6), (2, .int 0), (0, .ref a0), (1, .int a1)]) hx hb dJ7_fill_53178_4 rfl hl (by decide) rfl (fun ls hl => ?_)
  have J5 : ∀ (n : Nat) (H : Heap) (locs : List Loc) (ls : Array Slot), (∃ (w5 : va_W) (p5_l2 : Int32), tW (dC, dI) tys κ B A s w5 H locs ∧ Sm [] [35] κ ws w5 ∧ 0 ≤ p5_l2.toInt ∧ p5_l2.toInt ≤ 6 ∧ lv_has ls 4 [(0, .ref a0), (1, .int a1), (2, .int p5_l2), (3, .int 6)] ∧ (6 - p5_l2.toInt).toNat = n) → W p l e (headSpec (ws_u yJ7_fill_53178 cJ7_fill_53178 4 none) ({ frames := 0, cells := 0, slots := 0, locals := 0 })).room s m ([.ref a0, .int a1] : List Value).toArray below meth c H locs 0 0 QQ (F0 m 5 ls []) := by
    refine loopT _ ?_
    intro n_5 H locs ls hI ih_5
    obtain ⟨w5, p5_l2, hw, hM, l_p5_l2, h_p5_l2, hl, hn_5⟩ := hI
    refine lv_iload_n hx hb dJ7_fill_53178_5 rfl (lv_at hl 2 rfl) ?_
    refine lv_iload_n hx hb dJ7_fill_53178_6 rfl (lv_at hl 3 rfl) ?_
    refine lv_icmp_ge (tgt := 20) hx hb dJ7_fill_53178_7 (by decide) (fun c_7 => ?_) (fun c_7 => ?_)
    · simp only [fa_lt, fa_le, fa_eq, li_6] at c_7
      rw [hQ]
      refine W.widen (k := 0) (n := 0) (Nat.le_refl _) (Nat.le_refl _) ?_
      exact W.vret hx hb hr (fun t ht hW => ⟨⟨w5, rfl, ⟨hw.2.2.2.2, hM⟩, by rw [ht]; exact hw.2.1, va_K.moved hW.alike hw.1, hw.2.2.1⟩, hw.2.2.2.1.F ht⟩) hw.2.2.2.1.2.2 dJ7_fill_53178_20
    · simp only [fa_lt, fa_le, fa_eq, li_6] at c_7
      refine lv_aload_n hx hb dJ7_fill_53178_10 rfl (lv_at hl 0 rfl) ?_
      refine lv_iload_n hx hb dJ7_fill_53178_11 rfl (lv_at hl 2 rfl) ?_
      refine lv_iload_n hx hb dJ7_fill_53178_12 rfl (lv_at hl 1 rfl) ?_
      refine t_iast hx hb hw k_a0 rfl rfl (by omega) (show p5_l2.toInt < 6 by omega) (i32_lo _) (i32_hi _) dJ7_fill_53178_13 (fun w_1 H locs hw u => ?_)
      have hM := hM.up3 u k_a0 (by decide)
      obtain ⟨v14, e_v14⟩ : ∃ y : Int32, y = p5_l2 + 1 := ⟨_, rfl⟩
      refine lv_iinc (v := v14) (lv' := [(2, .int v14), (0, .ref a0), (1, .int a1), (3, .int 6)]) hx hb dJ7_fill_53178_14 hl (k := 2) rfl e_v14.symm (by decide) rfl (fun ls hl => ?_)
      have e_v14 : v14.toInt = p5_l2.toInt + 1 := ad_i e_v14 rfl li_1 (by omega) (by omega)
      refine lv_goto (tgt := 5) hx hb dJ7_fill_53178_17 (by decide) ?_
      exact ih_5 _ _ _ _ (by omega) ⟨w_1, v14, hw, hM, (by omega), (by omega), (lv_sub hl [1, 2, 0, 3] rfl), rfl⟩
  exact J5 _ _ _ _ ⟨ws, 0, hw, hM, (by decide), (by decide), (lv_sub hl [2, 3, 1, 0] rfl), rfl⟩
set_option maxHeartbeats 4000000 in
set_option maxRecDepth 100000 in
theorem t_J7_fill_53178_Standing_given (l : Launch) (dC : Nat → ClassId) (dI : Nat → Nat → Nat) (tys : List (ClassId × FieldType)) (κ : tK) (B : Nat) (ws : va_W) (hT : Ty κ tys B ws) (a0 : Nat) (k_a0 : κ a0 = some 47) (a1 : Int32) (sz : Nat) : Met l yJ7_fill_53178 (ws_u yJ7_fill_53178 cJ7_fill_53178 4 none) ({ frames := 0, cells := 0, slots := 0, locals := 0 }) (va_Pc [.ref a0, .int a1] (cPre (dC, dI) tys ws sz)) (va_Qv (fun (w : va_W) => Ty κ tys B w ∧ Sm [] [47] κ ws w) (fun w t => cPost (dC, dI) tys w (va_A ws sz) t) (va_A ws sz)) 0 0 (va_A ws sz) := by
  refine Met.ofW (cc := cJ7_fill_53178) (maxL := 4) (ret := none) (by decide) rfl ?_
  intro p e s m args below meth c s₁ B0 hml hv
  obtain ⟨rfl, hsz, hP, hK, hD0, hE⟩ := hv
  have hx := B0.exec
  have hb := B0.bytes
  have hr := B0.returns
  have hts0 := atoms_spec (ws := ws_u yJ7_fill_53178 cJ7_fill_53178 4 none) B0.pre
  have hts : ∀ w ∈ gT, w.before _ s = true := fun w h => hts0 w (List.mem_cons_of_mem _ h)
  have hown : s.vm.findClass RJ7 = some m.cls := findClass_of_methodNamed B0.named
  have hlocks := B0.notSynchronized
  subst hsz
  have hD := hD0.self (sz := s.heap.size)
  generalize hAe : va_A ws s.heap.size = A at hD ⊢
  have hA : ∀ q : Nat, s.heap.size ≤ q → A q := fun q h => by rw [← hAe]; exact Or.inr h
  have hw : tW (dC, dI) tys κ B A s ws s.heap [] := ⟨hK, hP, hD, va_S.rf, hT⟩
  have hM : Sm [] [47] κ ws ws := Sm.rf
  clear hP hK hD hD0 hts0
  have l_a1 := i32_lo a1
  have h_a1 := i32_hi a1
  have hl := lv_entry ([.ref a0, .int a1]) (n := 4) (Nat.le_of_ble_eq_true rfl)
  rw [lg_entry_eq]
  generalize (lg_sl ([.ref a0, .int a1]) ++ List.replicate (4 - (lg_sl ([.ref a0, .int a1])).length) Slot.unset).toArray = ls at hl ⊢
  have hl : lv_has ls 4 [(0, .ref a0), (1, .int a1)] := hl
  refine t_start (fun QQ hQ => ?_)
  refine lv_iconst (v := 0) hx hb dJ7_fill_53178_0 (by decide) ?_
  refine lv_istore_n (lv' := [(2, .int 0), (0, .ref a0), (1, .int a1)]) hx hb dJ7_fill_53178_1 rfl hl (by decide) rfl (fun ls hl => ?_)
  refine lv_aload_n hx hb dJ7_fill_53178_2 rfl (lv_at hl 1 rfl) ?_
  refine t_alen (v := 4) hx hb hw k_a0 rfl (by decide) dJ7_fill_53178_3 ?_
  refine lv_istore_n (lv' := [(3, .int 4), (2, .int 0), (0, .ref a0), (1, .int a1)]) hx hb dJ7_fill_53178_4 rfl hl (by decide) rfl (fun ls hl => ?_)
  have J5 : ∀ (n : Nat) (H : Heap) (locs : List Loc) (ls : Array Slot), (∃ (w5 : va_W) (p5_l2 : Int32), tW (dC, dI) tys κ B A s w5 H locs ∧ Sm [] [47] κ ws w5 ∧ 0 ≤ p5_l2.toInt ∧ p5_l2.toInt ≤ 4 ∧ lv_has ls 4 [(0, .ref a0), (1, .int a1), (2, .int p5_l2), (3, .int 4)] ∧ (4 - p5_l2.toInt).toNat = n) → W p l e (headSpec (ws_u yJ7_fill_53178 cJ7_fill_53178 4 none) ({ frames := 0, cells := 0, slots := 0, locals := 0 })).room s m ([.ref a0, .int a1] : List Value).toArray below meth c H locs 0 0 QQ (F0 m 5 ls []) := by
    refine loopT _ ?_
    intro n_5 H locs ls hI ih_5
    obtain ⟨w5, p5_l2, hw, hM, l_p5_l2, h_p5_l2, hl, hn_5⟩ := hI
    refine lv_iload_n hx hb dJ7_fill_53178_5 rfl (lv_at hl 2 rfl) ?_
    refine lv_iload_n hx hb dJ7_fill_53178_6 rfl (lv_at hl 3 rfl) ?_
    refine lv_icmp_ge (tgt := 20) hx hb dJ7_fill_53178_7 (by decide) (fun c_7 => ?_) (fun c_7 => ?_)
    · simp only [fa_lt, fa_le, fa_eq, li_4] at c_7
      rw [hQ]
      refine W.widen (k := 0) (n := 0) (Nat.le_refl _) (Nat.le_refl _) ?_
      exact W.vret hx hb hr (fun t ht hW => ⟨⟨w5, rfl, ⟨hw.2.2.2.2, hM⟩, by rw [ht]; exact hw.2.1, va_K.moved hW.alike hw.1, hw.2.2.1⟩, hw.2.2.2.1.F ht⟩) hw.2.2.2.1.2.2 dJ7_fill_53178_20
    · simp only [fa_lt, fa_le, fa_eq, li_4] at c_7
      refine lv_aload_n hx hb dJ7_fill_53178_10 rfl (lv_at hl 0 rfl) ?_
      refine lv_iload_n hx hb dJ7_fill_53178_11 rfl (lv_at hl 2 rfl) ?_
      refine lv_iload_n hx hb dJ7_fill_53178_12 rfl (lv_at hl 1 rfl) ?_
      refine t_iast hx hb hw k_a0 rfl rfl (by omega) (show p5_l2.toInt < 4 by omega) (i32_lo _) (i32_hi _) dJ7_fill_53178_13 (fun w_1 H locs hw u => ?_)
      have hM := hM.up3 u k_a0 (by decide)
      obtain ⟨v14, e_v14⟩ : ∃ y : Int32, y = p5_l2 + 1 := ⟨_, rfl⟩
      refine lv_iinc (v := v14) (lv' := [(2, .int v14), (0, .ref a0), (1, .int a1), (3, .int 4)]) hx hb dJ7_fill_53178_14 hl (k := 2) rfl e_v14.symm (by decide) rfl (fun ls hl => ?_)
      have e_v14 : v14.toInt = p5_l2.toInt + 1 := ad_i e_v14 rfl li_1 (by omega) (by omega)
      refine lv_goto (tgt := 5) hx hb dJ7_fill_53178_17 (by decide) ?_
      exact ih_5 _ _ _ _ (by omega) ⟨w_1, v14, hw, hM, (by omega), (by omega), (lv_sub hl [1, 2, 0, 3] rfl), rfl⟩
  exact J5 _ _ _ _ ⟨ws, 0, hw, hM, (by decide), (by decide), (lv_sub hl [2, 3, 1, 0] rfl), rfl⟩
set_option maxHeartbeats 4000000 in
set_option maxRecDepth 100000 in
theorem t_J7_fill_53178_Standing_was (l : Launch) (dC : Nat → ClassId) (dI : Nat → Nat → Nat) (tys : List (ClassId × FieldType)) (κ : tK) (B : Nat) (ws : va_W) (hT : Ty κ tys B ws) (a0 : Nat) (k_a0 : κ a0 = some 45) (a1 : Int32) (sz : Nat) : Met l yJ7_fill_53178 (ws_u yJ7_fill_53178 cJ7_fill_53178 4 none) ({ frames := 0, cells := 0, slots := 0, locals := 0 }) (va_Pc [.ref a0, .int a1] (cPre (dC, dI) tys ws sz)) (va_Qv (fun (w : va_W) => Ty κ tys B w ∧ Sm [] [45] κ ws w) (fun w t => cPost (dC, dI) tys w (va_A ws sz) t) (va_A ws sz)) 0 0 (va_A ws sz) := by
  refine Met.ofW (cc := cJ7_fill_53178) (maxL := 4) (ret := none) (by decide) rfl ?_
  intro p e s m args below meth c s₁ B0 hml hv
  obtain ⟨rfl, hsz, hP, hK, hD0, hE⟩ := hv
  have hx := B0.exec
  have hb := B0.bytes
  have hr := B0.returns
  have hts0 := atoms_spec (ws := ws_u yJ7_fill_53178 cJ7_fill_53178 4 none) B0.pre
  have hts : ∀ w ∈ gT, w.before _ s = true := fun w h => hts0 w (List.mem_cons_of_mem _ h)
  have hown : s.vm.findClass RJ7 = some m.cls := findClass_of_methodNamed B0.named
  have hlocks := B0.notSynchronized
  subst hsz
  have hD := hD0.self (sz := s.heap.size)
  generalize hAe : va_A ws s.heap.size = A at hD ⊢
  have hA : ∀ q : Nat, s.heap.size ≤ q → A q := fun q h => by rw [← hAe]; exact Or.inr h
  have hw : tW (dC, dI) tys κ B A s ws s.heap [] := ⟨hK, hP, hD, va_S.rf, hT⟩
  have hM : Sm [] [45] κ ws ws := Sm.rf
  clear hP hK hD hD0 hts0
  have l_a1 := i32_lo a1
  have h_a1 := i32_hi a1
  have hl := lv_entry ([.ref a0, .int a1]) (n := 4) (Nat.le_of_ble_eq_true rfl)
  rw [lg_entry_eq]
  generalize (lg_sl ([.ref a0, .int a1]) ++ List.replicate (4 - (lg_sl ([.ref a0, .int a1])).length) Slot.unset).toArray = ls at hl ⊢
  have hl : lv_has ls 4 [(0, .ref a0), (1, .int a1)] := hl
  refine t_start (fun QQ hQ => ?_)
  refine lv_iconst (v := 0) hx hb dJ7_fill_53178_0 (by decide) ?_
  refine lv_istore_n (lv' := [(2, .int 0), (0, .ref a0), (1, .int a1)]) hx hb dJ7_fill_53178_1 rfl hl (by decide) rfl (fun ls hl => ?_)
  refine lv_aload_n hx hb dJ7_fill_53178_2 rfl (lv_at hl 1 rfl) ?_
  refine t_alen (v := 6) hx hb hw k_a0 rfl (by decide) dJ7_fill_53178_3 ?_
  refine lv_istore_n (lv' := [(3, .int 6), (2, .int 0), (0, .ref a0), (1, .int a1)]) hx hb dJ7_fill_53178_4 rfl hl (by decide) rfl (fun ls hl => ?_)
  have J5 : ∀ (n : Nat) (H : Heap) (locs : List Loc) (ls : Array Slot), (∃ (w5 : va_W) (p5_l2 : Int32), tW (dC, dI) tys κ B A s w5 H locs ∧ Sm [] [45] κ ws w5 ∧ 0 ≤ p5_l2.toInt ∧ p5_l2.toInt ≤ 6 ∧ lv_has ls 4 [(0, .ref a0), (1, .int a1), (2, .int p5_l2), (3, .int 6)] ∧ (6 - p5_l2.toInt).toNat = n) → W p l e (headSpec (ws_u yJ7_fill_53178 cJ7_fill_53178 4 none) ({ frames := 0, cells := 0, slots := 0, locals := 0 })).room s m ([.ref a0, .int a1] : List Value).toArray below meth c H locs 0 0 QQ (F0 m 5 ls []) := by
    refine loopT _ ?_
    intro n_5 H locs ls hI ih_5
    obtain ⟨w5, p5_l2, hw, hM, l_p5_l2, h_p5_l2, hl, hn_5⟩ := hI
    refine lv_iload_n hx hb dJ7_fill_53178_5 rfl (lv_at hl 2 rfl) ?_
    refine lv_iload_n hx hb dJ7_fill_53178_6 rfl (lv_at hl 3 rfl) ?_
    refine lv_icmp_ge (tgt := 20) hx hb dJ7_fill_53178_7 (by decide) (fun c_7 => ?_) (fun c_7 => ?_)
    · simp only [fa_lt, fa_le, fa_eq, li_6] at c_7
      rw [hQ]
      refine W.widen (k := 0) (n := 0) (Nat.le_refl _) (Nat.le_refl _) ?_
      exact W.vret hx hb hr (fun t ht hW => ⟨⟨w5, rfl, ⟨hw.2.2.2.2, hM⟩, by rw [ht]; exact hw.2.1, va_K.moved hW.alike hw.1, hw.2.2.1⟩, hw.2.2.2.1.F ht⟩) hw.2.2.2.1.2.2 dJ7_fill_53178_20
    · simp only [fa_lt, fa_le, fa_eq, li_6] at c_7
      refine lv_aload_n hx hb dJ7_fill_53178_10 rfl (lv_at hl 0 rfl) ?_
      refine lv_iload_n hx hb dJ7_fill_53178_11 rfl (lv_at hl 2 rfl) ?_
      refine lv_iload_n hx hb dJ7_fill_53178_12 rfl (lv_at hl 1 rfl) ?_
      refine t_iast hx hb hw k_a0 rfl rfl (by omega) (show p5_l2.toInt < 6 by omega) (i32_lo _) (i32_hi _) dJ7_fill_53178_13 (fun w_1 H locs hw u => ?_)
      have hM := hM.up3 u k_a0 (by decide)
      obtain ⟨v14, e_v14⟩ : ∃ y : Int32, y = p5_l2 + 1 := ⟨_, rfl⟩
      refine lv_iinc (v := v14) (lv' := [(2, .int v14), (0, .ref a0), (1, .int a1), (3, .int 6)]) hx hb dJ7_fill_53178_14 hl (k := 2) rfl e_v14.symm (by decide) rfl (fun ls hl => ?_)
      have e_v14 : v14.toInt = p5_l2.toInt + 1 := ad_i e_v14 rfl li_1 (by omega) (by omega)
      refine lv_goto (tgt := 5) hx hb dJ7_fill_53178_17 (by decide) ?_
      exact ih_5 _ _ _ _ (by omega) ⟨w_1, v14, hw, hM, (by omega), (by omega), (lv_sub hl [1, 2, 0, 3] rfl), rfl⟩
  exact J5 _ _ _ _ ⟨ws, 0, hw, hM, (by decide), (by decide), (lv_sub hl [2, 3, 1, 0] rfl), rfl⟩
set_option maxHeartbeats 4000000 in
set_option maxRecDepth 100000 in
theorem t_X0_clear (l : Launch) (dC : Nat → ClassId) (dI : Nat → Nat → Nat) (tys : List (ClassId × FieldType)) (κ : tK) (B : Nat) (ws : va_W) (hT : Ty κ tys B ws) (a0 : Nat) (k_a0 : κ a0 = some 0) (sz : Nat) : Met l yX0_clear (ws_u yX0_clear cX0_clear 2 none) ({ frames := 1, cells := 0, slots := 0, locals := 23 }) (va_Pc [.ref a0] (cPre (dC, dI) tys ws sz)) (va_Qv (fun (w : va_W) => Ty κ tys B w ∧ Sm [(0, 3), (0, 4), (0, 5)] [23, 28, 29] κ ws w) (fun w t => cPost (dC, dI) tys w (va_A ws sz) t) (va_A ws sz)) 0 0 (va_A ws sz) := by
  refine Met.ofW (cc := cX0_clear) (maxL := 2) (ret := none) (by decide) rfl ?_
  intro p e s m args below meth c s₁ B0 hml hv
  obtain ⟨rfl, hsz, hP, hK, hD0, hE⟩ := hv
  have hx := B0.exec
  have hb := B0.bytes
  have hr := B0.returns
  have hts0 := atoms_spec (ws := ws_u yX0_clear cX0_clear 2 none) B0.pre
  have hts : ∀ w ∈ gT, w.before _ s = true := fun w h => hts0 w (List.mem_cons_of_mem _ h)
  have hown : s.vm.findClass RX0 = some m.cls := findClass_of_methodNamed B0.named
  have hlocks := B0.notSynchronized
  subst hsz
  have hD := hD0.self (sz := s.heap.size)
  generalize hAe : va_A ws s.heap.size = A at hD ⊢
  have hA : ∀ q : Nat, s.heap.size ≤ q → A q := fun q h => by rw [← hAe]; exact Or.inr h
  have hw : tW (dC, dI) tys κ B A s ws s.heap [] := ⟨hK, hP, hD, va_S.rf, hT⟩
  have hM : Sm [(0, 3), (0, 4), (0, 5)] [23, 28, 29] κ ws ws := Sm.rf
  clear hP hK hD hD0 hts0
  have hl := lv_entry ([.ref a0]) (n := 2) (Nat.le_of_ble_eq_true rfl)
  rw [lg_entry_eq]
  generalize (lg_sl ([.ref a0]) ++ List.replicate (2 - (lg_sl ([.ref a0])).length) Slot.unset).toArray = ls at hl ⊢
  have hl : lv_has ls 2 [(0, .ref a0)] := hl
  refine t_start (fun QQ hQ => ?_)
  refine lv_aload_n hx hb dX0_clear_0 rfl (lv_at hl 0 rfl) ?_
  refine lv_iconst (v := 0) hx hb dX0_clear_1 (by decide) ?_
  refine t_put (ci := 0) (C := RX0) (T := TX0) (N := 16) (v := .int 0) hx hb hts iX0 tyX0 tyX0_ok nmX0 hown hw k_a0 rfl rfl rfl 3 (by decide) (hts _ tw_76) (fun _ h9 => h9) rfl (tyX0_ok 3 (by decide)) rfl rfl (okV.int rfl (by decide) (by decide)) dX0_clear_2 (fun w_1 H locs hw u => ?_)
  have hM := hM.up1 u (by decide)
  have f_a0_X0_3 := u.2.2
  refine lv_aload_n hx hb dX0_clear_5 rfl (lv_at hl 0 rfl) ?_
  refine lv_iconst (v := 0) hx hb dX0_clear_6 (by decide) ?_
  refine t_put (ci := 0) (C := RX0) (T := TX0) (N := 16) (v := .int 0) hx hb hts iX0 tyX0 tyX0_ok nmX0 hown hw k_a0 rfl rfl rfl 4 (by decide) (hts _ tw_82) (fun _ h9 => h9) rfl (tyX0_ok 4 (by decide)) rfl rfl (okV.int rfl (by decide) (by decide)) dX0_clear_7 (fun w_2 H locs hw u => ?_)
  have hM := hM.up1 u (by decide)
  have f_a0_X0_3 := u.1 _ _ _ _ f_a0_X0_3 (Or.inr (Or.inr (by decide)))
  have f_a0_X0_4 := u.2.2
  refine lv_aload_n hx hb dX0_clear_10 rfl (lv_at hl 0 rfl) ?_
  refine lv_iconst (v := 0) hx hb dX0_clear_11 (by decide) ?_
  refine t_put (ci := 0) (C := RX0) (T := TX0) (N := 16) (v := .int 0) hx hb hts iX0 tyX0 tyX0_ok nmX0 hown hw k_a0 rfl rfl rfl 5 (by decide) (hts _ tw_86) (fun _ h9 => h9) rfl (tyX0_ok 5 (by decide)) rfl rfl (okV.int rfl (by decide) (by decide)) dX0_clear_12 (fun w_3 H locs hw u => ?_)
  have hM := hM.up1 u (by decide)
  have f_a0_X0_3 := u.1 _ _ _ _ f_a0_X0_3 (Or.inr (Or.inr (by decide)))
  have f_a0_X0_4 := u.1 _ _ _ _ f_a0_X0_4 (Or.inr (Or.inr (by decide)))
  have f_a0_X0_5 := u.2.2
  refine lv_aload_n hx hb dX0_clear_15 rfl (lv_at hl 0 rfl) ?_
  refine t_getr (k1 := 23) (ci := 0) (C := RX0) (T := TX0) (N := 16) hx hb hts iX0 hown hw k_a0 rfl rfl rfl 9 (by decide) (hts _ tw_101) (fun _ h9 => h9) dX0_clear_16 rfl (fun v16 k_v16 f_a0_X0_9 => ?_)
  refine lv_iconst (v := 0) hx hb dX0_clear_19 (by decide) ?_
  refine t_callv (va_runS (As := [.ref v16, .int 0]) (rest := []) ⟨hx, hb, hml, hown, hts⟩ (t_J7_fill_53178_Choir_likes l dC dI tys κ B w_3 hw.2.2.2.2 v16 k_v16 0 H.size) (va_cwS 2 hts (gUS tw_488 tw_489 tw_14 tw_490) rfl rfl rfl (by decide +kernel) ⟨(Nat.le_of_ble_eq_true rfl), (Nat.le_of_ble_eq_true rfl)⟩) ⟨cPre.blind, cPre.use hw.2.1 hw.1 hw.2.2.1 hE⟩ rfl rfl hl.1 rfl (lv_room (Nat.le_of_ble_eq_true rfl)) dX0_clear_20 ⟨(Nat.le_of_ble_eq_true rfl), (Nat.le_of_ble_eq_true rfl)⟩) hw hA (fun _ h => h.1) (fun w_4 H locs hp hw => ?_)
  obtain ⟨_, hm⟩ := hp
  have hM := hM.trans hm (by decide) (by decide)
  have f_a0_X0_3 := hm.1 _ _ _ _ f_a0_X0_3 (by decide)
  have f_a0_X0_4 := hm.1 _ _ _ _ f_a0_X0_4 (by decide)
  have f_a0_X0_5 := hm.1 _ _ _ _ f_a0_X0_5 (by decide)
  have f_a0_X0_9 := hm.1 _ _ _ _ f_a0_X0_9 (by decide)
  refine lv_aload_n hx hb dX0_clear_23 rfl (lv_at hl 0 rfl) ?_
  refine t_getr (k1 := 28) (ci := 0) (C := RX0) (T := TX0) (N := 16) hx hb hts iX0 hown hw k_a0 rfl rfl rfl 14 (by decide) (hts _ tw_119) (fun _ h9 => h9) dX0_clear_24 rfl (fun v24 k_v24 f_a0_X0_14 => ?_)
  refine lv_ldc (v := 1000000) hx hb hown (hts _ tw_491) dX0_clear_27 ?_
  refine t_callv (va_runS (As := [.ref v24, .int 1000000]) (rest := []) ⟨hx, hb, hml, hown, hts⟩ (t_J7_fill_53178_Choir_ways l dC dI tys κ B w_4 hw.2.2.2.2 v24 k_v24 1000000 H.size) (va_cwS 2 hts (gUS tw_488 tw_489 tw_14 tw_490) rfl rfl rfl (by decide +kernel) ⟨(Nat.le_of_ble_eq_true rfl), (Nat.le_of_ble_eq_true rfl)⟩) ⟨cPre.blind, cPre.use hw.2.1 hw.1 hw.2.2.1 hE⟩ rfl rfl hl.1 rfl (lv_room (Nat.le_of_ble_eq_true rfl)) dX0_clear_29 ⟨(Nat.le_of_ble_eq_true rfl), (Nat.le_of_ble_eq_true rfl)⟩) hw hA (fun _ h => h.1) (fun w_5 H locs hp hw => ?_)
  obtain ⟨_, hm⟩ := hp
  have hM := hM.trans hm (by decide) (by decide)
  have f_a0_X0_3 := hm.1 _ _ _ _ f_a0_X0_3 (by decide)
  have f_a0_X0_4 := hm.1 _ _ _ _ f_a0_X0_4 (by decide)
  have f_a0_X0_5 := hm.1 _ _ _ _ f_a0_X0_5 (by decide)
  have f_a0_X0_9 := hm.1 _ _ _ _ f_a0_X0_9 (by decide)
  have f_a0_X0_14 := hm.1 _ _ _ _ f_a0_X0_14 (by decide)
  refine lv_iconst (v := 0) hx hb dX0_clear_32 (by decide) ?_
  refine lv_istore_n (lv' := [(1, .int 0), (0, .ref a0)]) hx hb dX0_clear_33 rfl hl (by decide) rfl (fun ls hl => ?_)
  have J34 : ∀ (n : Nat) (H : Heap) (locs : List Loc) (ls : Array Slot), (∃ (w34 : va_W) (p34_l1 : Int32), tW (dC, dI) tys κ B A s w34 H locs ∧ Sm [(0, 3), (0, 4), (0, 5)] [23, 28, 29] κ ws w34 ∧ 0 ≤ p34_l1.toInt ∧ p34_l1.toInt ≤ 61 ∧ fld w34 a0 0 14 (.ref v24) ∧ fld w34 a0 0 3 (.int 0) ∧ fld w34 a0 0 4 (.int 0) ∧ fld w34 a0 0 5 (.int 0) ∧ fld w34 a0 0 9 (.ref v16) ∧ lv_has ls 2 [(0, .ref a0), (1, .int p34_l1)] ∧ (61 - p34_l1.toInt).toNat = n) → W p l e (headSpec (ws_u yX0_clear cX0_clear 2 none) ({ frames := 1, cells := 0, slots := 0, locals := 23 })).room s m ([.ref a0] : List Value).toArray below meth c H locs 0 0 QQ (F0 m 34 ls []) := by
    refine loopT _ ?_
    intro n_34 H locs ls hI ih_34
    obtain ⟨w34, p34_l1, hw, hM, l_p34_l1, h_p34_l1, f_a0_X0_14, f_a0_X0_3, f_a0_X0_4, f_a0_X0_5, f_a0_X0_9, hl, hn_34⟩ := hI
    refine lv_iload_n hx hb dX0_clear_34 rfl (lv_at hl 1 rfl) ?_
    refine lv_aload_n hx hb dX0_clear_35 rfl (lv_at hl 0 rfl) ?_
    refine t_getr (k1 := 29) (ci := 0) (C := RX0) (T := TX0) (N := 16) hx hb hts iX0 hown hw k_a0 rfl rfl rfl 15 (by decide) (hts _ tw_120) (fun _ h9 => h9) dX0_clear_36 rfl (fun v36 k_v36 f_a0_X0_15 => ?_)
    refine t_alen (v := 61) hx hb hw k_v36 rfl (by decide) dX0_clear_39 ?_
    refine lv_icmp_ge (tgt := 56) hx hb dX0_clear_40 (by decide) (fun c_40 => ?_) (fun c_40 => ?_)
    · simp only [fa_lt, fa_le, fa_eq, li_61] at c_40
      rw [hQ]
      refine W.widen (k := 0) (n := 0) (Nat.le_refl _) (Nat.le_refl _) ?_
      exact W.vret hx hb hr (fun t ht hW => ⟨⟨w34, rfl, ⟨hw.2.2.2.2, hM⟩, by rw [ht]; exact hw.2.1, va_K.moved hW.alike hw.1, hw.2.2.1⟩, hw.2.2.2.1.F ht⟩) hw.2.2.2.1.2.2 dX0_clear_56
    · simp only [fa_lt, fa_le, fa_eq, li_61] at c_40
      refine lv_aload_n hx hb dX0_clear_43 rfl (lv_at hl 0 rfl) ?_
      refine t_getk (ci := 0) (C := RX0) (T := TX0) (N := 16) hx hb hts iX0 hown hw rfl 15 (by decide) (hts _ tw_120) (fun _ h9 => h9) dX0_clear_44 f_a0_X0_15 ?_
      refine lv_iload_n hx hb dX0_clear_47 rfl (lv_at hl 1 rfl) ?_
      refine lv_iconst (v := 0) hx hb dX0_clear_48 (by decide) ?_
      refine t_zast hx hb hw k_v36 rfl rfl (by omega) (show p34_l1.toInt < 61 by omega) (fun _ => rfl) dX0_clear_49 (fun w_6 H locs hw u => ?_)
      have hM := hM.up3 u k_v36 (by decide)
      have f_a0_X0_14 := u.1 _ _ _ _ f_a0_X0_14
      have f_a0_X0_3 := u.1 _ _ _ _ f_a0_X0_3
      have f_a0_X0_4 := u.1 _ _ _ _ f_a0_X0_4
      have f_a0_X0_5 := u.1 _ _ _ _ f_a0_X0_5
      have f_a0_X0_9 := u.1 _ _ _ _ f_a0_X0_9
      have f_a0_X0_15 := u.1 _ _ _ _ f_a0_X0_15
      obtain ⟨v50, e_v50⟩ : ∃ y : Int32, y = p34_l1 + 1 := ⟨_, rfl⟩
      refine lv_iinc (v := v50) (lv' := [(1, .int v50), (0, .ref a0)]) hx hb dX0_clear_50 hl (k := 1) rfl e_v50.symm (by decide) rfl (fun ls hl => ?_)
      have e_v50 : v50.toInt = p34_l1.toInt + 1 := ad_i e_v50 rfl li_1 (by omega) (by omega)
      refine lv_goto (tgt := 34) hx hb dX0_clear_53 (by decide) ?_
      exact ih_34 _ _ _ _ (by omega) ⟨w_6, v50, hw, hM, (by omega), (by omega), f_a0_X0_14, f_a0_X0_3, f_a0_X0_4, f_a0_X0_5, f_a0_X0_9, (lv_sub hl [1, 0] rfl), rfl⟩
  exact J34 _ _ _ _ ⟨w_5, 0, hw, hM, (by decide), (by decide), f_a0_X0_14, f_a0_X0_3, f_a0_X0_4, f_a0_X0_5, f_a0_X0_9, (lv_sub hl [1, 0] rfl), rfl⟩
set_option maxHeartbeats 4000000 in
set_option maxRecDepth 100000 in
theorem t_X0_fewestHours_0 (l : Launch) (dC : Nat → ClassId) (dI : Nat → Nat → Nat) (tys : List (ClassId × FieldType)) (κ : tK) (B : Nat) (ws : va_W) (hT : Ty κ tys B ws) (a0 : Nat) (k_a0 : κ a0 = some 28) (a1 : Int32) (l_a1 : 1 ≤ a1.toInt) (h_a1 : a1.toInt ≤ 6) (a2 : Int32) (l_a2 : 1 ≤ a2.toInt) (h_a2 : a2.toInt ≤ 6) (a3 : Int32) (l_a3 : 0 ≤ a3.toInt) (h_a3 : a3.toInt ≤ 63) (hX : c6 a3 ≤ 0) (sz : Nat) : Met l yX0_fewestHours (ws_u yX0_fewestHours cX0_fewestHours 7 (some .int)) ({ frames := 0, cells := 0, slots := 0, locals := 0 }) (va_Pc [.ref a0, .int a1, .int a2, .int a3] (cPre (dC, dI) tys ws sz)) (va_Qi (fun (r : Int32) (w : va_W) => Ty κ tys B w ∧ Sm [] [] κ ws w) (fun w t => cPost (dC, dI) tys w (va_A ws sz) t) (va_A ws sz)) 0 0 (va_A ws sz) := by
  refine Met.ofW (cc := cX0_fewestHours) (maxL := 7) (ret := (some .int)) (by decide) rfl ?_
  intro p e s m args below meth c s₁ B0 hml hv
  obtain ⟨rfl, hsz, hP, hK, hD0, hE⟩ := hv
  have hx := B0.exec
  have hb := B0.bytes
  have hr := B0.returns
  have hts0 := atoms_spec (ws := ws_u yX0_fewestHours cX0_fewestHours 7 (some .int)) B0.pre
  have hts : ∀ w ∈ gT, w.before _ s = true := fun w h => hts0 w (List.mem_cons_of_mem _ h)
  have hown : s.vm.findClass RX0 = some m.cls := findClass_of_methodNamed B0.named
  have hlocks := B0.notSynchronized
  subst hsz
  have hD := hD0.self (sz := s.heap.size)
  generalize hAe : va_A ws s.heap.size = A at hD ⊢
  have hA : ∀ q : Nat, s.heap.size ≤ q → A q := fun q h => by rw [← hAe]; exact Or.inr h
  have hw : tW (dC, dI) tys κ B A s ws s.heap [] := ⟨hK, hP, hD, va_S.rf, hT⟩
  have hM : Sm [] [] κ ws ws := Sm.rf
  clear hP hK hD hD0 hts0
  have hl := lv_entry ([.ref a0, .int a1, .int a2, .int a3]) (n := 7) (Nat.le_of_ble_eq_true rfl)
  rw [lg_entry_eq]
  generalize (lg_sl ([.ref a0, .int a1, .int a2, .int a3]) ++ List.replicate (7 - (lg_sl ([.ref a0, .int a1, .int a2, .int a3])).length) Slot.unset).toArray = ls at hl ⊢
  have hl : lv_has ls 7 [(0, .ref a0), (1, .int a1), (2, .int a2), (3, .int a3)] := hl
  refine t_start (fun QQ hQ => ?_)
  refine lv_iload_n hx hb dX0_fewestHours_0 rfl (lv_at hl 3 rfl) ?_
  refine lv_if_ne (tgt := 13) hx hb dX0_fewestHours_1 (by decide) (fun c_1 => ?_) (fun c_1 => ?_)
  · simp only [fa_lt, fa_le, fa_eq, li_0] at c_1
    refine lv_ldc (v := 1000000) hx hb hown (hts _ tw_491) dX0_fewestHours_13 ?_
    refine lv_istore (lv' := [(4, .int 1000000), (0, .ref a0), (1, .int a1), (2, .int a2), (3, .int a3)]) hx hb dX0_fewestHours_15 hl (by decide) rfl (fun ls hl => ?_)
    refine lv_iconst (v := 0) hx hb dX0_fewestHours_17 (by decide) ?_
    refine lv_istore (lv' := [(5, .int 0), (4, .int 1000000), (0, .ref a0), (1, .int a1), (2, .int a2), (3, .int a3)]) hx hb dX0_fewestHours_18 hl (by decide) rfl (fun ls hl => ?_)
    have J20 : ∀ (n : Nat) (H : Heap) (locs : List Loc) (ls : Array Slot), (∃ (w20 : va_W) (p20_l5 : Int32), tW (dC, dI) tys κ B A s w20 H locs ∧ Sm [] [] κ ws w20 ∧ 0 ≤ p20_l5.toInt ∧ p20_l5.toInt ≤ 6 ∧ lv_has ls 7 [(0, .ref a0), (1, .int a1), (2, .int a2), (3, .int a3), (4, .int 1000000), (5, .int p20_l5)] ∧ (6 - p20_l5.toInt).toNat = n) → W p l e (headSpec (ws_u yX0_fewestHours cX0_fewestHours 7 (some .int)) ({ frames := 0, cells := 0, slots := 0, locals := 0 })).room s m ([.ref a0, .int a1, .int a2, .int a3] : List Value).toArray below meth c H locs 0 0 QQ (F0 m 20 ls []) := by
      refine loopT _ ?_
      intro n_20 H locs ls hI ih_20
      obtain ⟨w20, p20_l5, hw, hM, l_p20_l5, h_p20_l5, hl, hn_20⟩ := hI
      refine lv_iload hx hb dX0_fewestHours_20 (lv_at hl 5 rfl) ?_
      refine lv_iload_n hx hb dX0_fewestHours_22 rfl (lv_at hl 1 rfl) ?_
      refine lv_icmp_ge (tgt := 89) hx hb dX0_fewestHours_23 (by decide) (fun c_23 => ?_) (fun c_23 => ?_)
      · simp only [fa_lt, fa_le, fa_eq] at c_23
        refine lv_iload hx hb dX0_fewestHours_89 (lv_at hl 4 rfl) ?_
        rw [hQ]
        refine W.widen (k := 0) (n := 0) (Nat.le_refl _) (Nat.le_refl _) ?_
        exact W.iret (v := 1000000) hx hb hr (fun t ht hW => ⟨⟨1000000, w20, rfl, ⟨hw.2.2.2.2, hM⟩, by rw [ht]; exact hw.2.1, va_K.moved hW.alike hw.1, hw.2.2.1⟩, hw.2.2.2.1.F ht⟩) hw.2.2.2.1.2.2 dX0_fewestHours_91
      · simp only [fa_lt, fa_le, fa_eq] at c_23
        refine lv_aload_n hx hb dX0_fewestHours_26 rfl (lv_at hl 0 rfl) ?_
        refine lv_iload_n hx hb dX0_fewestHours_27 rfl (lv_at hl 2 rfl) ?_
        refine lv_bipush (v := 7) hx hb dX0_fewestHours_28 (by decide) ?_
        refine lv_imul hx hb dX0_fewestHours_30 ?_
        refine lv_topi (fun v30 e_v30 => ?_)
        have e_v30 : v30.toInt = a2.toInt * 7 := ml_i e_v30 rfl li_7 (by omega) (by omega)
        refine lv_iload hx hb dX0_fewestHours_31 (lv_at hl 5 rfl) ?_
        refine lv_iadd hx hb dX0_fewestHours_33 ?_
        refine lv_topi (fun v33 e_v33 => ?_)
        have e_v33 : v33.toInt = v30.toInt + p20_l5.toInt := ad_i e_v33 rfl rfl (by omega) (by omega)
        refine lv_iconst (v := 1) hx hb dX0_fewestHours_34 (by decide) ?_
        refine lv_iadd hx hb dX0_fewestHours_35 ?_
        refine lv_topi (fun v35 e_v35 => ?_)
        have e_v35 : v35.toInt = v33.toInt + 1 := ad_i e_v35 rfl li_1 (by omega) (by omega)
        refine t_iald hx hb hw k_a0 rfl rfl (by omega) (show v35.toInt < 49 by omega) dX0_fewestHours_36 (fun v36 r_v36 s_v36 q_v36 => ?_)
        have l_v36 := i32_lo v36
        have h_v36 := i32_hi v36
        refine lv_istore (lv' := [(6, .int v36), (0, .ref a0), (1, .int a1), (2, .int a2), (3, .int a3), (4, .int 1000000), (5, .int p20_l5)]) hx hb dX0_fewestHours_37 hl (by decide) rfl (fun ls hl => ?_)
        refine lv_iload_n hx hb dX0_fewestHours_39 rfl (lv_at hl 4 rfl) ?_
        refine lv_iload hx hb dX0_fewestHours_40 (lv_at hl 6 rfl) ?_
        refine lv_ishr hx hb dX0_fewestHours_42 ?_
        refine lv_topi (fun v42 e_v42 => ?_)
        have l_v42 := i32_lo v42
        have h_v42 := i32_hi v42
        refine lv_iconst (v := 1) hx hb dX0_fewestHours_43 (by decide) ?_
        refine lv_iand hx hb dX0_fewestHours_44 ?_
        refine lv_topi (fun v44 e_v44 => ?_)
        have ⟨l_v44, h_v44⟩ : 0 ≤ v44.toInt ∧ v44.toInt ≤ 1 := and_r e_v44 li_1 (by decide)
        refine lv_iconst (v := 1) hx hb dX0_fewestHours_45 (by decide) ?_
        have J83 : ∀ (H : Heap) (locs : List Loc) (ls : Array Slot) (w83 : va_W), tW (dC, dI) tys κ B A s w83 H locs → Sm [] [] κ ws w83 → lv_has ls 7 [(0, .ref a0), (1, .int a1), (2, .int a2), (3, .int a3), (4, .int 1000000), (5, .int p20_l5), (6, .int v36)] → W p l e (headSpec (ws_u yX0_fewestHours cX0_fewestHours 7 (some .int)) ({ frames := 0, cells := 0, slots := 0, locals := 0 })).room s m ([.ref a0, .int a1, .int a2, .int a3] : List Value).toArray below meth c H locs 0 0 QQ (F0 m 83 ls []) := by
          intro H locs ls w83 hw hM hl
          obtain ⟨v83, e_v83⟩ : ∃ y : Int32, y = p20_l5 + 1 := ⟨_, rfl⟩
          refine lv_iinc (v := v83) (lv' := [(5, .int v83), (0, .ref a0), (1, .int a1), (2, .int a2), (3, .int a3), (4, .int 1000000), (6, .int v36)]) hx hb dX0_fewestHours_83 hl (k := 5) rfl e_v83.symm (by decide) rfl (fun ls hl => ?_)
          have e_v83 : v83.toInt = p20_l5.toInt + 1 := ad_i e_v83 rfl li_1 (by omega) (by omega)
          refine lv_goto (tgt := 20) hx hb dX0_fewestHours_86 (by decide) ?_
          exact ih_20 _ _ _ _ (by omega) ⟨w83, v83, hw, hM, (by omega), (by omega), (lv_sub hl [1, 2, 3, 4, 5, 0] rfl), rfl⟩
        refine lv_icmp_ne (tgt := 83) hx hb dX0_fewestHours_46 (by decide) (fun c_46 => ?_) (fun c_46 => ?_)
        · simp only [fa_lt, fa_le, fa_eq, li_1] at c_46
          exact J83 _ _ _ w20 hw hM (lv_sub hl [1, 2, 3, 4, 5, 6, 0] rfl)
        · simp only [fa_lt, fa_le, fa_eq, li_1] at c_46
          refine lv_iload hx hb dX0_fewestHours_49 (lv_at hl 0 rfl) ?_
          refine lv_iload hx hb dX0_fewestHours_51 (lv_at hl 5 rfl) ?_
          refine lv_icmp_ge (tgt := 83) hx hb dX0_fewestHours_53 (by decide) (fun c_53 => ?_) (fun c_53 => ?_)
          · simp only [fa_lt, fa_le, fa_eq, li_1000000] at c_53
            exact J83 _ _ _ w20 hw hM (lv_sub hl [1, 2, 3, 4, 5, 6, 0] rfl)
          · simp only [fa_lt, fa_le, fa_eq, li_1000000] at c_53
            refine lv_iload hx hb dX0_fewestHours_56 (lv_at hl 5 rfl) ?_
            refine lv_iload hx hb dX0_fewestHours_58 (lv_at hl 0 rfl) ?_
            refine lv_aload_n hx hb dX0_fewestHours_60 rfl (lv_at hl 1 rfl) ?_
            refine lv_iload_n hx hb dX0_fewestHours_61 rfl (lv_at hl 2 rfl) ?_
            refine lv_iload hx hb dX0_fewestHours_62 (lv_at hl 6 rfl) ?_
            refine lv_iconst (v := 1) hx hb dX0_fewestHours_64 (by decide) ?_
            refine lv_iadd hx hb dX0_fewestHours_65 ?_
            refine lv_topi (fun v65 e_v65 => ?_)
            have e_v65 : v65.toInt = p20_l5.toInt + 1 := ad_i e_v65 rfl li_1 (by omega) (by omega)
            refine lv_iload_n hx hb dX0_fewestHours_66 rfl (lv_at hl 4 rfl) ?_
            refine lv_iconst (v := 1) hx hb dX0_fewestHours_67 (by decide) ?_
            refine lv_iload hx hb dX0_fewestHours_68 (lv_at hl 6 rfl) ?_
            refine lv_ishl hx hb dX0_fewestHours_70 ?_
            refine lv_topi (fun v70 e_v70 => ?_)
            have ⟨l_v70, h_v70⟩ := sh_i e_v70 (by omega) (by omega)
            refine lv_iconst (v := (-1)) hx hb dX0_fewestHours_71 (by decide) ?_
            refine lv_ixor hx hb dX0_fewestHours_72 ?_
            refine lv_topi (fun v72 e_v72 => ?_)
            have l_v72 := i32_lo v72
            have h_v72 := i32_hi v72
            refine lv_iand hx hb dX0_fewestHours_73 ?_
            refine lv_topi (fun v73 e_v73 => ?_)
            have ⟨l_v73, h_v73⟩ : 0 ≤ v73.toInt ∧ v73.toInt ≤ a3.toInt := and_l e_v73 rfl (by omega)
            have ⟨hc_73, _, _⟩ := c6_clear e_v42 e_v44 c_46 e_v70 e_v72 e_v73 (by omega) (by omega) (by omega) (by omega)
            exact absurd hc_73 (by omega)
    exact J20 _ _ _ _ ⟨ws, 0, hw, hM, (by decide), (by decide), (lv_sub hl [2, 3, 4, 5, 1, 0] rfl), rfl⟩
  · simp only [fa_lt, fa_le, fa_eq, li_0] at c_1
    refine lv_aload_n hx hb dX0_fewestHours_4 rfl (lv_at hl 0 rfl) ?_
    refine lv_iload_n hx hb dX0_fewestHours_5 rfl (lv_at hl 2 rfl) ?_
    refine lv_bipush (v := 7) hx hb dX0_fewestHours_6 (by decide) ?_
    refine lv_imul hx hb dX0_fewestHours_8 ?_
    refine lv_topi (fun v8 e_v8 => ?_)
    have e_v8 : v8.toInt = a2.toInt * 7 := ml_i e_v8 rfl li_7 (by omega) (by omega)
    refine lv_iconst (v := 0) hx hb dX0_fewestHours_9 (by decide) ?_
    refine lv_iadd hx hb dX0_fewestHours_10 ?_
    refine lv_topi (fun v10 e_v10 => ?_)
    have e_v10 : v10.toInt = v8.toInt + 0 := ad_i e_v10 rfl li_0 (by omega) (by omega)
    refine t_iald hx hb hw k_a0 rfl rfl (by omega) (show v10.toInt < 49 by omega) dX0_fewestHours_11 (fun v11 r_v11 s_v11 q_v11 => ?_)
    have l_v11 := i32_lo v11
    have h_v11 := i32_hi v11
    rw [hQ]
    refine W.widen (k := 0) (n := 0) (Nat.le_refl _) (Nat.le_refl _) ?_
    exact W.iret (v := v11) hx hb hr (fun t ht hW => ⟨⟨v11, ws, rfl, ⟨hw.2.2.2.2, hM⟩, by rw [ht]; exact hw.2.1, va_K.moved hW.alike hw.1, hw.2.2.1⟩, hw.2.2.2.1.F ht⟩) hw.2.2.2.1.2.2 dX0_fewestHours_12
set_option maxHeartbeats 4000000 in
set_option maxRecDepth 100000 in
theorem t_X0_fewestHours_1 (l : Launch) (dC : Nat → ClassId) (dI : Nat → Nat → Nat) (tys : List (ClassId × FieldType)) (κ : tK) (B : Nat) (ws : va_W) (hT : Ty κ tys B ws) (a0 : Nat) (k_a0 : κ a0 = some 28) (a1 : Int32) (l_a1 : 1 ≤ a1.toInt) (h_a1 : a1.toInt ≤ 6) (a2 : Int32) (l_a2 : 1 ≤ a2.toInt) (h_a2 : a2.toInt ≤ 6) (a3 : Int32) (l_a3 : 0 ≤ a3.toInt) (h_a3 : a3.toInt ≤ 63) (hX : c6 a3 ≤ 1) (sz : Nat) : Met l yX0_fewestHours (ws_u yX0_fewestHours cX0_fewestHours 7 (some .int)) ({ frames := 1, cells := 0, slots := 0, locals := 40 }) (va_Pc [.ref a0, .int a1, .int a2, .int a3] (cPre (dC, dI) tys ws sz)) (va_Qi (fun (r : Int32) (w : va_W) => Ty κ tys B w ∧ Sm [] [] κ ws w) (fun w t => cPost (dC, dI) tys w (va_A ws sz) t) (va_A ws sz)) 0 0 (va_A ws sz) := by
  refine Met.ofW (cc := cX0_fewestHours) (maxL := 7) (ret := (some .int)) (by decide) rfl ?_
  intro p e s m args below meth c s₁ B0 hml hv
  obtain ⟨rfl, hsz, hP, hK, hD0, hE⟩ := hv
  have hx := B0.exec
  have hb := B0.bytes
  have hr := B0.returns
  have hts0 := atoms_spec (ws := ws_u yX0_fewestHours cX0_fewestHours 7 (some .int)) B0.pre
  have hts : ∀ w ∈ gT, w.before _ s = true := fun w h => hts0 w (List.mem_cons_of_mem _ h)
  have hown : s.vm.findClass RX0 = some m.cls := findClass_of_methodNamed B0.named
  have hlocks := B0.notSynchronized
  subst hsz
  have hD := hD0.self (sz := s.heap.size)
  generalize hAe : va_A ws s.heap.size = A at hD ⊢
  have hA : ∀ q : Nat, s.heap.size ≤ q → A q := fun q h => by rw [← hAe]; exact Or.inr h
  have hw : tW (dC, dI) tys κ B A s ws s.heap [] := ⟨hK, hP, hD, va_S.rf, hT⟩
  have hM : Sm [] [] κ ws ws := Sm.rf
  clear hP hK hD hD0 hts0
  have hl := lv_entry ([.ref a0, .int a1, .int a2, .int a3]) (n := 7) (Nat.le_of_ble_eq_true rfl)
  rw [lg_entry_eq]
  generalize (lg_sl ([.ref a0, .int a1, .int a2, .int a3]) ++ List.replicate (7 - (lg_sl ([.ref a0, .int a1, .int a2, .int a3])).length) Slot.unset).toArray = ls at hl ⊢
  have hl : lv_has ls 7 [(0, .ref a0), (1, .int a1), (2, .int a2), (3, .int a3)] := hl
  refine t_start (fun QQ hQ => ?_)
  refine lv_iload_n hx hb dX0_fewestHours_0 rfl (lv_at hl 3 rfl) ?_
  refine lv_if_ne (tgt := 13) hx hb dX0_fewestHours_1 (by decide) (fun c_1 => ?_) (fun c_1 => ?_)
  · simp only [fa_lt, fa_le, fa_eq, li_0] at c_1
    refine lv_ldc (v := 1000000) hx hb hown (hts _ tw_491) dX0_fewestHours_13 ?_
    refine lv_istore (lv' := [(4, .int 1000000), (0, .ref a0), (1, .int a1), (2, .int a2), (3, .int a3)]) hx hb dX0_fewestHours_15 hl (by decide) rfl (fun ls hl => ?_)
    refine lv_iconst (v := 0) hx hb dX0_fewestHours_17 (by decide) ?_
    refine lv_istore (lv' := [(5, .int 0), (4, .int 1000000), (0, .ref a0), (1, .int a1), (2, .int a2), (3, .int a3)]) hx hb dX0_fewestHours_18 hl (by decide) rfl (fun ls hl => ?_)
    have J20 : ∀ (n : Nat) (H : Heap) (locs : List Loc) (ls : Array Slot), (∃ (w20 : va_W) (p20_l4 : Int32) (p20_l5 : Int32), tW (dC, dI) tys κ B A s w20 H locs ∧ Sm [] [] κ ws w20 ∧ (-2147483648) ≤ p20_l4.toInt ∧ p20_l4.toInt ≤ 1000000 ∧ 0 ≤ p20_l5.toInt ∧ p20_l5.toInt ≤ 6 ∧ lv_has ls 7 [(0, .ref a0), (1, .int a1), (2, .int a2), (3, .int a3), (4, .int p20_l4), (5, .int p20_l5)] ∧ (6 - p20_l5.toInt).toNat = n) → W p l e (headSpec (ws_u yX0_fewestHours cX0_fewestHours 7 (some .int)) ({ frames := 1, cells := 0, slots := 0, locals := 40 })).room s m ([.ref a0, .int a1, .int a2, .int a3] : List Value).toArray below meth c H locs 0 0 QQ (F0 m 20 ls []) := by
      refine loopT _ ?_
      intro n_20 H locs ls hI ih_20
      obtain ⟨w20, p20_l4, p20_l5, hw, hM, l_p20_l4, h_p20_l4, l_p20_l5, h_p20_l5, hl, hn_20⟩ := hI
      refine lv_iload hx hb dX0_fewestHours_20 (lv_at hl 5 rfl) ?_
      refine lv_iload_n hx hb dX0_fewestHours_22 rfl (lv_at hl 1 rfl) ?_
      refine lv_icmp_ge (tgt := 89) hx hb dX0_fewestHours_23 (by decide) (fun c_23 => ?_) (fun c_23 => ?_)
      · simp only [fa_lt, fa_le, fa_eq] at c_23
        refine lv_iload hx hb dX0_fewestHours_89 (lv_at hl 4 rfl) ?_
        rw [hQ]
        refine W.widen (k := 0) (n := 0) (Nat.le_refl _) (Nat.le_refl _) ?_
        exact W.iret (v := p20_l4) hx hb hr (fun t ht hW => ⟨⟨p20_l4, w20, rfl, ⟨hw.2.2.2.2, hM⟩, by rw [ht]; exact hw.2.1, va_K.moved hW.alike hw.1, hw.2.2.1⟩, hw.2.2.2.1.F ht⟩) hw.2.2.2.1.2.2 dX0_fewestHours_91
      · simp only [fa_lt, fa_le, fa_eq] at c_23
        refine lv_aload_n hx hb dX0_fewestHours_26 rfl (lv_at hl 0 rfl) ?_
        refine lv_iload_n hx hb dX0_fewestHours_27 rfl (lv_at hl 2 rfl) ?_
        refine lv_bipush (v := 7) hx hb dX0_fewestHours_28 (by decide) ?_
        refine lv_imul hx hb dX0_fewestHours_30 ?_
        refine lv_topi (fun v30 e_v30 => ?_)
        have e_v30 : v30.toInt = a2.toInt * 7 := ml_i e_v30 rfl li_7 (by omega) (by omega)
        refine lv_iload hx hb dX0_fewestHours_31 (lv_at hl 5 rfl) ?_
        refine lv_iadd hx hb dX0_fewestHours_33 ?_
        refine lv_topi (fun v33 e_v33 => ?_)
        have e_v33 : v33.toInt = v30.toInt + p20_l5.toInt := ad_i e_v33 rfl rfl (by omega) (by omega)
        refine lv_iconst (v := 1) hx hb dX0_fewestHours_34 (by decide) ?_
        refine lv_iadd hx hb dX0_fewestHours_35 ?_
        refine lv_topi (fun v35 e_v35 => ?_)
        have e_v35 : v35.toInt = v33.toInt + 1 := ad_i e_v35 rfl li_1 (by omega) (by omega)
        refine t_iald hx hb hw k_a0 rfl rfl (by omega) (show v35.toInt < 49 by omega) dX0_fewestHours_36 (fun v36 r_v36 s_v36 q_v36 => ?_)
        have l_v36 := i32_lo v36
        have h_v36 := i32_hi v36
        refine lv_istore (lv' := [(6, .int v36), (0, .ref a0), (1, .int a1), (2, .int a2), (3, .int a3), (4, .int p20_l4), (5, .int p20_l5)]) hx hb dX0_fewestHours_37 hl (by decide) rfl (fun ls hl => ?_)
        refine lv_iload_n hx hb dX0_fewestHours_39 rfl (lv_at hl 4 rfl) ?_
        refine lv_iload hx hb dX0_fewestHours_40 (lv_at hl 6 rfl) ?_
        refine lv_ishr hx hb dX0_fewestHours_42 ?_
        refine lv_topi (fun v42 e_v42 => ?_)
        have l_v42 := i32_lo v42
        have h_v42 := i32_hi v42
        refine lv_iconst (v := 1) hx hb dX0_fewestHours_43 (by decide) ?_
        refine lv_iand hx hb dX0_fewestHours_44 ?_
        refine lv_topi (fun v44 e_v44 => ?_)
        have ⟨l_v44, h_v44⟩ : 0 ≤ v44.toInt ∧ v44.toInt ≤ 1 := and_r e_v44 li_1 (by decide)
        refine lv_iconst (v := 1) hx hb dX0_fewestHours_45 (by decide) ?_
        have J83 : ∀ (H : Heap) (locs : List Loc) (ls : Array Slot) (w83 : va_W) (p83_l4 : Int32), tW (dC, dI) tys κ B A s w83 H locs → Sm [] [] κ ws w83 → (-2147483648) ≤ p83_l4.toInt → p83_l4.toInt ≤ 1000000 → lv_has ls 7 [(0, .ref a0), (1, .int a1), (2, .int a2), (3, .int a3), (4, .int p83_l4), (5, .int p20_l5), (6, .int v36)] → W p l e (headSpec (ws_u yX0_fewestHours cX0_fewestHours 7 (some .int)) ({ frames := 1, cells := 0, slots := 0, locals := 40 })).room s m ([.ref a0, .int a1, .int a2, .int a3] : List Value).toArray below meth c H locs 0 0 QQ (F0 m 83 ls []) := by
          intro H locs ls w83 p83_l4 hw hM l_p83_l4 h_p83_l4 hl
          obtain ⟨v83, e_v83⟩ : ∃ y : Int32, y = p20_l5 + 1 := ⟨_, rfl⟩
          refine lv_iinc (v := v83) (lv' := [(5, .int v83), (0, .ref a0), (1, .int a1), (2, .int a2), (3, .int a3), (4, .int p83_l4), (6, .int v36)]) hx hb dX0_fewestHours_83 hl (k := 5) rfl e_v83.symm (by decide) rfl (fun ls hl => ?_)
          have e_v83 : v83.toInt = p20_l5.toInt + 1 := ad_i e_v83 rfl li_1 (by omega) (by omega)
          refine lv_goto (tgt := 20) hx hb dX0_fewestHours_86 (by decide) ?_
          exact ih_20 _ _ _ _ (by omega) ⟨w83, p83_l4, v83, hw, hM, (by omega), (by omega), (by omega), (by omega), (lv_sub hl [1, 2, 3, 4, 5, 0] rfl), rfl⟩
        refine lv_icmp_ne (tgt := 83) hx hb dX0_fewestHours_46 (by decide) (fun c_46 => ?_) (fun c_46 => ?_)
        · simp only [fa_lt, fa_le, fa_eq, li_1] at c_46
          exact J83 _ _ _ w20 p20_l4 hw hM (by omega) (by omega) (lv_sub hl [1, 2, 3, 4, 5, 6, 0] rfl)
        · simp only [fa_lt, fa_le, fa_eq, li_1] at c_46
          refine lv_iload hx hb dX0_fewestHours_49 (lv_at hl 0 rfl) ?_
          refine lv_iload hx hb dX0_fewestHours_51 (lv_at hl 5 rfl) ?_
          refine lv_icmp_ge (tgt := 83) hx hb dX0_fewestHours_53 (by decide) (fun c_53 => ?_) (fun c_53 => ?_)
          · simp only [fa_lt, fa_le, fa_eq] at c_53
            exact J83 _ _ _ w20 p20_l4 hw hM (by omega) (by omega) (lv_sub hl [1, 2, 3, 4, 5, 6, 0] rfl)
          · simp only [fa_lt, fa_le, fa_eq] at c_53
            refine lv_iload hx hb dX0_fewestHours_56 (lv_at hl 5 rfl) ?_
            refine lv_iload hx hb dX0_fewestHours_58 (lv_at hl 0 rfl) ?_
            refine lv_aload_n hx hb dX0_fewestHours_60 rfl (lv_at hl 1 rfl) ?_
            refine lv_iload_n hx hb dX0_fewestHours_61 rfl (lv_at hl 2 rfl) ?_
            refine lv_iload hx hb dX0_fewestHours_62 (lv_at hl 6 rfl) ?_
            refine lv_iconst (v := 1) hx hb dX0_fewestHours_64 (by decide) ?_
            refine lv_iadd hx hb dX0_fewestHours_65 ?_
            refine lv_topi (fun v65 e_v65 => ?_)
            have e_v65 : v65.toInt = p20_l5.toInt + 1 := ad_i e_v65 rfl li_1 (by omega) (by omega)
            refine lv_iload_n hx hb dX0_fewestHours_66 rfl (lv_at hl 4 rfl) ?_
            refine lv_iconst (v := 1) hx hb dX0_fewestHours_67 (by decide) ?_
            refine lv_iload hx hb dX0_fewestHours_68 (lv_at hl 6 rfl) ?_
            refine lv_ishl hx hb dX0_fewestHours_70 ?_
            refine lv_topi (fun v70 e_v70 => ?_)
            have ⟨l_v70, h_v70⟩ := sh_i e_v70 (by omega) (by omega)
            refine lv_iconst (v := (-1)) hx hb dX0_fewestHours_71 (by decide) ?_
            refine lv_ixor hx hb dX0_fewestHours_72 ?_
            refine lv_topi (fun v72 e_v72 => ?_)
            have l_v72 := i32_lo v72
            have h_v72 := i32_hi v72
            refine lv_iand hx hb dX0_fewestHours_73 ?_
            refine lv_topi (fun v73 e_v73 => ?_)
            have ⟨l_v73, h_v73⟩ : 0 ≤ v73.toInt ∧ v73.toInt ≤ a3.toInt := and_l e_v73 rfl (by omega)
            have ⟨hc_73, _, _⟩ := c6_clear e_v42 e_v44 c_46 e_v70 e_v72 e_v73 (by omega) (by omega) (by omega) (by omega)
            refine t_calli (va_runS (As := [.ref a0, .int a1, .int v65, .int v73]) (rest := [.int v36, .int p20_l4]) ⟨hx, hb, hml, hown, hts⟩ (t_X0_fewestHours_0 l dC dI tys κ B w20 hw.2.2.2.2 a0 k_a0 a1 (by omega) (by omega) v65 (by omega) (by omega) v73 (by omega) (by omega) (by omega) H.size) (va_cwS 4 hts (gUS tw_991 tw_992 tw_4 tw_993) rfl rfl rfl (by decide +kernel) ⟨(Nat.le_of_ble_eq_true rfl), (Nat.le_of_ble_eq_true rfl)⟩) ⟨cPre.blind, cPre.use hw.2.1 hw.1 hw.2.2.1 hE⟩ rfl rfl hl.1 rfl (lv_room (Nat.le_of_ble_eq_true rfl)) dX0_fewestHours_74 ⟨(Nat.le_of_ble_eq_true rfl), (Nat.le_of_ble_eq_true rfl)⟩) hw hA (fun _ _ h => h.1) (fun v74 w_1 H locs hp hw => ?_)
            obtain ⟨_, hm⟩ := hp
            have l_v74 := i32_lo v74
            have h_v74 := i32_hi v74
            have hM := hM.trans hm (by decide) (by decide)
            refine lv_iadd hx hb dX0_fewestHours_77 ?_
            refine lv_topi (fun v77 e_v77 => ?_)
            have l_v77 := i32_lo v77
            have h_v77 := i32_hi v77
            refine va_mmin hx hb (hml.trans hl.1.symm) hown (hts _ tw_614) (hts _ tw_615) (hts _ tw_19) (hts _ tw_616) (Nat.le_of_ble_eq_true rfl) (Nat.le_of_ble_eq_true rfl) (Nat.le_of_ble_eq_true rfl) (Nat.le_of_ble_eq_true rfl) dX0_fewestHours_78 ?_
            refine lv_topi (fun v78 e_v78 => ?_)
            have g_v78 := mn_i e_v78 rfl rfl
            refine lv_istore (lv' := [(4, .int v78), (6, .int v36), (0, .ref a0), (1, .int a1), (2, .int a2), (3, .int a3), (5, .int p20_l5)]) hx hb dX0_fewestHours_81 hl (by decide) rfl (fun ls hl => ?_)
            exact J83 _ _ _ w_1 v78 hw hM (by omega) (by omega) (lv_sub hl [2, 3, 4, 5, 0, 6, 1] rfl)
    exact J20 _ _ _ _ ⟨ws, 1000000, 0, hw, hM, (by decide), (by decide), (by decide), (by decide), (lv_sub hl [2, 3, 4, 5, 1, 0] rfl), rfl⟩
  · simp only [fa_lt, fa_le, fa_eq, li_0] at c_1
    refine lv_aload_n hx hb dX0_fewestHours_4 rfl (lv_at hl 0 rfl) ?_
    refine lv_iload_n hx hb dX0_fewestHours_5 rfl (lv_at hl 2 rfl) ?_
    refine lv_bipush (v := 7) hx hb dX0_fewestHours_6 (by decide) ?_
    refine lv_imul hx hb dX0_fewestHours_8 ?_
    refine lv_topi (fun v8 e_v8 => ?_)
    have e_v8 : v8.toInt = a2.toInt * 7 := ml_i e_v8 rfl li_7 (by omega) (by omega)
    refine lv_iconst (v := 0) hx hb dX0_fewestHours_9 (by decide) ?_
    refine lv_iadd hx hb dX0_fewestHours_10 ?_
    refine lv_topi (fun v10 e_v10 => ?_)
    have e_v10 : v10.toInt = v8.toInt + 0 := ad_i e_v10 rfl li_0 (by omega) (by omega)
    refine t_iald hx hb hw k_a0 rfl rfl (by omega) (show v10.toInt < 49 by omega) dX0_fewestHours_11 (fun v11 r_v11 s_v11 q_v11 => ?_)
    have l_v11 := i32_lo v11
    have h_v11 := i32_hi v11
    rw [hQ]
    refine W.widen (k := 0) (n := 0) (Nat.le_refl _) (Nat.le_refl _) ?_
    exact W.iret (v := v11) hx hb hr (fun t ht hW => ⟨⟨v11, ws, rfl, ⟨hw.2.2.2.2, hM⟩, by rw [ht]; exact hw.2.1, va_K.moved hW.alike hw.1, hw.2.2.1⟩, hw.2.2.2.1.F ht⟩) hw.2.2.2.1.2.2 dX0_fewestHours_12
set_option maxHeartbeats 4000000 in
set_option maxRecDepth 100000 in
theorem t_X0_fewestHours_2 (l : Launch) (dC : Nat → ClassId) (dI : Nat → Nat → Nat) (tys : List (ClassId × FieldType)) (κ : tK) (B : Nat) (ws : va_W) (hT : Ty κ tys B ws) (a0 : Nat) (k_a0 : κ a0 = some 28) (a1 : Int32) (l_a1 : 1 ≤ a1.toInt) (h_a1 : a1.toInt ≤ 6) (a2 : Int32) (l_a2 : 1 ≤ a2.toInt) (h_a2 : a2.toInt ≤ 6) (a3 : Int32) (l_a3 : 0 ≤ a3.toInt) (h_a3 : a3.toInt ≤ 63) (hX : c6 a3 ≤ 2) (sz : Nat) : Met l yX0_fewestHours (ws_u yX0_fewestHours cX0_fewestHours 7 (some .int)) ({ frames := 2, cells := 0, slots := 0, locals := 66 }) (va_Pc [.ref a0, .int a1, .int a2, .int a3] (cPre (dC, dI) tys ws sz)) (va_Qi (fun (r : Int32) (w : va_W) => Ty κ tys B w ∧ Sm [] [] κ ws w) (fun w t => cPost (dC, dI) tys w (va_A ws sz) t) (va_A ws sz)) 0 0 (va_A ws sz) := by
  refine Met.ofW (cc := cX0_fewestHours) (maxL := 7) (ret := (some .int)) (by decide) rfl ?_
  intro p e s m args below meth c s₁ B0 hml hv
  obtain ⟨rfl, hsz, hP, hK, hD0, hE⟩ := hv
  have hx := B0.exec
  have hb := B0.bytes
  have hr := B0.returns
  have hts0 := atoms_spec (ws := ws_u yX0_fewestHours cX0_fewestHours 7 (some .int)) B0.pre
  have hts : ∀ w ∈ gT, w.before _ s = true := fun w h => hts0 w (List.mem_cons_of_mem _ h)
  have hown : s.vm.findClass RX0 = some m.cls := findClass_of_methodNamed B0.named
  have hlocks := B0.notSynchronized
  subst hsz
  have hD := hD0.self (sz := s.heap.size)
  generalize hAe : va_A ws s.heap.size = A at hD ⊢
  have hA : ∀ q : Nat, s.heap.size ≤ q → A q := fun q h => by rw [← hAe]; exact Or.inr h
  have hw : tW (dC, dI) tys κ B A s ws s.heap [] := ⟨hK, hP, hD, va_S.rf, hT⟩
  have hM : Sm [] [] κ ws ws := Sm.rf
  clear hP hK hD hD0 hts0
  have hl := lv_entry ([.ref a0, .int a1, .int a2, .int a3]) (n := 7) (Nat.le_of_ble_eq_true rfl)
  rw [lg_entry_eq]
  generalize (lg_sl ([.ref a0, .int a1, .int a2, .int a3]) ++ List.replicate (7 - (lg_sl ([.ref a0, .int a1, .int a2, .int a3])).length) Slot.unset).toArray = ls at hl ⊢
  have hl : lv_has ls 7 [(0, .ref a0), (1, .int a1), (2, .int a2), (3, .int a3)] := hl
  refine t_start (fun QQ hQ => ?_)
  refine lv_iload_n hx hb dX0_fewestHours_0 rfl (lv_at hl 3 rfl) ?_
  refine lv_if_ne (tgt := 13) hx hb dX0_fewestHours_1 (by decide) (fun c_1 => ?_) (fun c_1 => ?_)
  · simp only [fa_lt, fa_le, fa_eq, li_0] at c_1
    refine lv_ldc (v := 1000000) hx hb hown (hts _ tw_491) dX0_fewestHours_13 ?_
    refine lv_istore (lv' := [(4, .int 1000000), (0, .ref a0), (1, .int a1), (2, .int a2), (3, .int a3)]) hx hb dX0_fewestHours_15 hl (by decide) rfl (fun ls hl => ?_)
    refine lv_iconst (v := 0) hx hb dX0_fewestHours_17 (by decide) ?_
    refine lv_istore (lv' := [(5, .int 0), (4, .int 1000000), (0, .ref a0), (1, .int a1), (2, .int a2), (3, .int a3)]) hx hb dX0_fewestHours_18 hl (by decide) rfl (fun ls hl => ?_)
    have J20 : ∀ (n : Nat) (H : Heap) (locs : List Loc) (ls : Array Slot), (∃ (w20 : va_W) (p20_l4 : Int32) (p20_l5 : Int32), tW (dC, dI) tys κ B A s w20 H locs ∧ Sm [] [] κ ws w20 ∧ (-2147483648) ≤ p20_l4.toInt ∧ p20_l4.toInt ≤ 1000000 ∧ 0 ≤ p20_l5.toInt ∧ p20_l5.toInt ≤ 6 ∧ lv_has ls 7 [(0, .ref a0), (1, .int a1), (2, .int a2), (3, .int a3), (4, .int p20_l4), (5, .int p20_l5)] ∧ (6 - p20_l5.toInt).toNat = n) → W p l e (headSpec (ws_u yX0_fewestHours cX0_fewestHours 7 (some .int)) ({ frames := 2, cells := 0, slots := 0, locals := 66 })).room s m ([.ref a0, .int a1, .int a2, .int a3] : List Value).toArray below meth c H locs 0 0 QQ (F0 m 20 ls []) := by
      refine loopT _ ?_
      intro n_20 H locs ls hI ih_20
      obtain ⟨w20, p20_l4, p20_l5, hw, hM, l_p20_l4, h_p20_l4, l_p20_l5, h_p20_l5, hl, hn_20⟩ := hI
      refine lv_iload hx hb dX0_fewestHours_20 (lv_at hl 5 rfl) ?_
      refine lv_iload_n hx hb dX0_fewestHours_22 rfl (lv_at hl 1 rfl) ?_
      refine lv_icmp_ge (tgt := 89) hx hb dX0_fewestHours_23 (by decide) (fun c_23 => ?_) (fun c_23 => ?_)
      · simp only [fa_lt, fa_le, fa_eq] at c_23
        refine lv_iload hx hb dX0_fewestHours_89 (lv_at hl 4 rfl) ?_
        rw [hQ]
        refine W.widen (k := 0) (n := 0) (Nat.le_refl _) (Nat.le_refl _) ?_
        exact W.iret (v := p20_l4) hx hb hr (fun t ht hW => ⟨⟨p20_l4, w20, rfl, ⟨hw.2.2.2.2, hM⟩, by rw [ht]; exact hw.2.1, va_K.moved hW.alike hw.1, hw.2.2.1⟩, hw.2.2.2.1.F ht⟩) hw.2.2.2.1.2.2 dX0_fewestHours_91
      · simp only [fa_lt, fa_le, fa_eq] at c_23
        refine lv_aload_n hx hb dX0_fewestHours_26 rfl (lv_at hl 0 rfl) ?_
        refine lv_iload_n hx hb dX0_fewestHours_27 rfl (lv_at hl 2 rfl) ?_
        refine lv_bipush (v := 7) hx hb dX0_fewestHours_28 (by decide) ?_
        refine lv_imul hx hb dX0_fewestHours_30 ?_
        refine lv_topi (fun v30 e_v30 => ?_)
        have e_v30 : v30.toInt = a2.toInt * 7 := ml_i e_v30 rfl li_7 (by omega) (by omega)
        refine lv_iload hx hb dX0_fewestHours_31 (lv_at hl 5 rfl) ?_
        refine lv_iadd hx hb dX0_fewestHours_33 ?_
        refine lv_topi (fun v33 e_v33 => ?_)
        have e_v33 : v33.toInt = v30.toInt + p20_l5.toInt := ad_i e_v33 rfl rfl (by omega) (by omega)
        refine lv_iconst (v := 1) hx hb dX0_fewestHours_34 (by decide) ?_
        refine lv_iadd hx hb dX0_fewestHours_35 ?_
        refine lv_topi (fun v35 e_v35 => ?_)
        have e_v35 : v35.toInt = v33.toInt + 1 := ad_i e_v35 rfl li_1 (by omega) (by omega)
        refine t_iald hx hb hw k_a0 rfl rfl (by omega) (show v35.toInt < 49 by omega) dX0_fewestHours_36 (fun v36 r_v36 s_v36 q_v36 => ?_)
        have l_v36 := i32_lo v36
        have h_v36 := i32_hi v36
        refine lv_istore (lv' := [(6, .int v36), (0, .ref a0), (1, .int a1), (2, .int a2), (3, .int a3), (4, .int p20_l4), (5, .int p20_l5)]) hx hb dX0_fewestHours_37 hl (by decide) rfl (fun ls hl => ?_)
        refine lv_iload_n hx hb dX0_fewestHours_39 rfl (lv_at hl 4 rfl) ?_
        refine lv_iload hx hb dX0_fewestHours_40 (lv_at hl 6 rfl) ?_
        refine lv_ishr hx hb dX0_fewestHours_42 ?_
        refine lv_topi (fun v42 e_v42 => ?_)
        have l_v42 := i32_lo v42
        have h_v42 := i32_hi v42
        refine lv_iconst (v := 1) hx hb dX0_fewestHours_43 (by decide) ?_
        refine lv_iand hx hb dX0_fewestHours_44 ?_
        refine lv_topi (fun v44 e_v44 => ?_)
        have ⟨l_v44, h_v44⟩ : 0 ≤ v44.toInt ∧ v44.toInt ≤ 1 := and_r e_v44 li_1 (by decide)
        refine lv_iconst (v := 1) hx hb dX0_fewestHours_45 (by decide) ?_
        have J83 : ∀ (H : Heap) (locs : List Loc) (ls : Array Slot) (w83 : va_W) (p83_l4 : Int32), tW (dC, dI) tys κ B A s w83 H locs → Sm [] [] κ ws w83 → (-2147483648) ≤ p83_l4.toInt → p83_l4.toInt ≤ 1000000 → lv_has ls 7 [(0, .ref a0), (1, .int a1), (2, .int a2), (3, .int a3), (4, .int p83_l4), (5, .int p20_l5), (6, .int v36)] → W p l e (headSpec (ws_u yX0_fewestHours cX0_fewestHours 7 (some .int)) ({ frames := 2, cells := 0, slots := 0, locals := 66 })).room s m ([.ref a0, .int a1, .int a2, .int a3] : List Value).toArray below meth c H locs 0 0 QQ (F0 m 83 ls []) := by
          intro H locs ls w83 p83_l4 hw hM l_p83_l4 h_p83_l4 hl
          obtain ⟨v83, e_v83⟩ : ∃ y : Int32, y = p20_l5 + 1 := ⟨_, rfl⟩
          refine lv_iinc (v := v83) (lv' := [(5, .int v83), (0, .ref a0), (1, .int a1), (2, .int a2), (3, .int a3), (4, .int p83_l4), (6, .int v36)]) hx hb dX0_fewestHours_83 hl (k := 5) rfl e_v83.symm (by decide) rfl (fun ls hl => ?_)
          have e_v83 : v83.toInt = p20_l5.toInt + 1 := ad_i e_v83 rfl li_1 (by omega) (by omega)
          refine lv_goto (tgt := 20) hx hb dX0_fewestHours_86 (by decide) ?_
          exact ih_20 _ _ _ _ (by omega) ⟨w83, p83_l4, v83, hw, hM, (by omega), (by omega), (by omega), (by omega), (lv_sub hl [1, 2, 3, 4, 5, 0] rfl), rfl⟩
        refine lv_icmp_ne (tgt := 83) hx hb dX0_fewestHours_46 (by decide) (fun c_46 => ?_) (fun c_46 => ?_)
        · simp only [fa_lt, fa_le, fa_eq, li_1] at c_46
          exact J83 _ _ _ w20 p20_l4 hw hM (by omega) (by omega) (lv_sub hl [1, 2, 3, 4, 5, 6, 0] rfl)
        · simp only [fa_lt, fa_le, fa_eq, li_1] at c_46
          refine lv_iload hx hb dX0_fewestHours_49 (lv_at hl 0 rfl) ?_
          refine lv_iload hx hb dX0_fewestHours_51 (lv_at hl 5 rfl) ?_
          refine lv_icmp_ge (tgt := 83) hx hb dX0_fewestHours_53 (by decide) (fun c_53 => ?_) (fun c_53 => ?_)
          · simp only [fa_lt, fa_le, fa_eq] at c_53
            exact J83 _ _ _ w20 p20_l4 hw hM (by omega) (by omega) (lv_sub hl [1, 2, 3, 4, 5, 6, 0] rfl)
          · simp only [fa_lt, fa_le, fa_eq] at c_53
            refine lv_iload hx hb dX0_fewestHours_56 (lv_at hl 5 rfl) ?_
            refine lv_iload hx hb dX0_fewestHours_58 (lv_at hl 0 rfl) ?_
            refine lv_aload_n hx hb dX0_fewestHours_60 rfl (lv_at hl 1 rfl) ?_
            refine lv_iload_n hx hb dX0_fewestHours_61 rfl (lv_at hl 2 rfl) ?_
            refine lv_iload hx hb dX0_fewestHours_62 (lv_at hl 6 rfl) ?_
            refine lv_iconst (v := 1) hx hb dX0_fewestHours_64 (by decide) ?_
            refine lv_iadd hx hb dX0_fewestHours_65 ?_
            refine lv_topi (fun v65 e_v65 => ?_)
            have e_v65 : v65.toInt = p20_l5.toInt + 1 := ad_i e_v65 rfl li_1 (by omega) (by omega)
            refine lv_iload_n hx hb dX0_fewestHours_66 rfl (lv_at hl 4 rfl) ?_
            refine lv_iconst (v := 1) hx hb dX0_fewestHours_67 (by decide) ?_
            refine lv_iload hx hb dX0_fewestHours_68 (lv_at hl 6 rfl) ?_
            refine lv_ishl hx hb dX0_fewestHours_70 ?_
            refine lv_topi (fun v70 e_v70 => ?_)
            have ⟨l_v70, h_v70⟩ := sh_i e_v70 (by omega) (by omega)
            refine lv_iconst (v := (-1)) hx hb dX0_fewestHours_71 (by decide) ?_
            refine lv_ixor hx hb dX0_fewestHours_72 ?_
            refine lv_topi (fun v72 e_v72 => ?_)
            have l_v72 := i32_lo v72
            have h_v72 := i32_hi v72
            refine lv_iand hx hb dX0_fewestHours_73 ?_
            refine lv_topi (fun v73 e_v73 => ?_)
            have ⟨l_v73, h_v73⟩ : 0 ≤ v73.toInt ∧ v73.toInt ≤ a3.toInt := and_l e_v73 rfl (by omega)
            have ⟨hc_73, _, _⟩ := c6_clear e_v42 e_v44 c_46 e_v70 e_v72 e_v73 (by omega) (by omega) (by omega) (by omega)
            refine t_calli (va_runS (As := [.ref a0, .int a1, .int v65, .int v73]) (rest := [.int v36, .int p20_l4]) ⟨hx, hb, hml, hown, hts⟩ (t_X0_fewestHours_1 l dC dI tys κ B w20 hw.2.2.2.2 a0 k_a0 a1 (by omega) (by omega) v65 (by omega) (by omega) v73 (by omega) (by omega) (by omega) H.size) (va_cwS 4 hts (gUS tw_991 tw_992 tw_4 tw_993) rfl rfl rfl (by decide +kernel) ⟨(Nat.le_of_ble_eq_true rfl), (Nat.le_of_ble_eq_true rfl)⟩) ⟨cPre.blind, cPre.use hw.2.1 hw.1 hw.2.2.1 hE⟩ rfl rfl hl.1 rfl (lv_room (Nat.le_of_ble_eq_true rfl)) dX0_fewestHours_74 ⟨(Nat.le_of_ble_eq_true rfl), (Nat.le_of_ble_eq_true rfl)⟩) hw hA (fun _ _ h => h.1) (fun v74 w_1 H locs hp hw => ?_)
            obtain ⟨_, hm⟩ := hp
            have l_v74 := i32_lo v74
            have h_v74 := i32_hi v74
            have hM := hM.trans hm (by decide) (by decide)
            refine lv_iadd hx hb dX0_fewestHours_77 ?_
            refine lv_topi (fun v77 e_v77 => ?_)
            have l_v77 := i32_lo v77
            have h_v77 := i32_hi v77
            refine va_mmin hx hb (hml.trans hl.1.symm) hown (hts _ tw_614) (hts _ tw_615) (hts _ tw_19) (hts _ tw_616) (Nat.le_of_ble_eq_true rfl) (Nat.le_of_ble_eq_true rfl) (Nat.le_of_ble_eq_true rfl) (Nat.le_of_ble_eq_true rfl) dX0_fewestHours_78 ?_
            refine lv_topi (fun v78 e_v78 => ?_)
            have g_v78 := mn_i e_v78 rfl rfl
            refine lv_istore (lv' := [(4, .int v78), (6, .int v36), (0, .ref a0), (1, .int a1), (2, .int a2), (3, .int a3), (5, .int p20_l5)]) hx hb dX0_fewestHours_81 hl (by decide) rfl (fun ls hl => ?_)
            exact J83 _ _ _ w_1 v78 hw hM (by omega) (by omega) (lv_sub hl [2, 3, 4, 5, 0, 6, 1] rfl)
    exact J20 _ _ _ _ ⟨ws, 1000000, 0, hw, hM, (by decide), (by decide), (by decide), (by decide), (lv_sub hl [2, 3, 4, 5, 1, 0] rfl), rfl⟩
  · simp only [fa_lt, fa_le, fa_eq, li_0] at c_1
    refine lv_aload_n hx hb dX0_fewestHours_4 rfl (lv_at hl 0 rfl) ?_
    refine lv_iload_n hx hb dX0_fewestHours_5 rfl (lv_at hl 2 rfl) ?_
    refine lv_bipush (v := 7) hx hb dX0_fewestHours_6 (by decide) ?_
    refine lv_imul hx hb dX0_fewestHours_8 ?_
    refine lv_topi (fun v8 e_v8 => ?_)
    have e_v8 : v8.toInt = a2.toInt * 7 := ml_i e_v8 rfl li_7 (by omega) (by omega)
    refine lv_iconst (v := 0) hx hb dX0_fewestHours_9 (by decide) ?_
    refine lv_iadd hx hb dX0_fewestHours_10 ?_
    refine lv_topi (fun v10 e_v10 => ?_)
    have e_v10 : v10.toInt = v8.toInt + 0 := ad_i e_v10 rfl li_0 (by omega) (by omega)
    refine t_iald hx hb hw k_a0 rfl rfl (by omega) (show v10.toInt < 49 by omega) dX0_fewestHours_11 (fun v11 r_v11 s_v11 q_v11 => ?_)
    have l_v11 := i32_lo v11
    have h_v11 := i32_hi v11
    rw [hQ]
    refine W.widen (k := 0) (n := 0) (Nat.le_refl _) (Nat.le_refl _) ?_
    exact W.iret (v := v11) hx hb hr (fun t ht hW => ⟨⟨v11, ws, rfl, ⟨hw.2.2.2.2, hM⟩, by rw [ht]; exact hw.2.1, va_K.moved hW.alike hw.1, hw.2.2.1⟩, hw.2.2.2.1.F ht⟩) hw.2.2.2.1.2.2 dX0_fewestHours_12
