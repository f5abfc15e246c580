theorem ts_2_10 : Cond.selects "BoyBishop$Chronicle" ⟨"BoyBishop$Chronicle", "fits", "(ILBoyBishop$Whole;)Z"⟩ ⟨"BoyBishop$Chronicle", "fits", "(ILBoyBishop$Whole;)Z"⟩ ∈ gT := gT_in (List.mem_append_left _ (List.mem_map.mpr ⟨(⟨"BoyBishop$Chronicle", "fits", "(ILBoyBishop$Whole;)Z"⟩, 5), (List.mem_append_right _ (List.mem_append_right _ (List.mem_append_left _ (List.mem_of_getElem? (i := 10) rfl)))), rfl⟩)) rfl
theorem ts_2_2 : Cond.selects "BoyBishop$Poll" ⟨"BoyBishop$Poll", "countWhoWantMore", "(II)I"⟩ ⟨"BoyBishop$Poll", "countWhoWantMore", "(II)I"⟩ ∈ gT := gT_in (List.mem_append_left _ (List.mem_map.mpr ⟨(⟨"BoyBishop$Poll", "countWhoWantMore", "(II)I"⟩, 8), (List.mem_append_right _ (List.mem_append_right _ (List.mem_append_left _ (List.mem_of_getElem? (i := 2) rfl)))), rfl⟩)) rfl
theorem ts_2_3 : Cond.selects "BoyBishop$Poll" ⟨"BoyBishop$Poll", "isAheadOfEach", "(I)Z"⟩ ⟨"BoyBishop$Poll", "isAheadOfEach", "(I)Z"⟩ ∈ gT := gT_in (List.mem_append_left _ (List.mem_map.mpr ⟨(⟨"BoyBishop$Poll", "isAheadOfEach", "(I)Z"⟩, 8), (List.mem_append_right _ (List.mem_append_right _ (List.mem_append_left _ (List.mem_of_getElem? (i := 3) rfl)))), rfl⟩)) rfl
theorem ts_2_9 : Cond.selects "BoyBishop$Chronicle" ⟨"BoyBishop$Chronicle", "tell", "(ILBoyBishop$Choir;LBoyBishop$Rule;)V"⟩ ⟨"BoyBishop$Chronicle", "tell", "(ILBoyBishop$Choir;LBoyBishop$Rule;)V"⟩ ∈ gT := gT_in (List.mem_append_left _ (List.mem_map.mpr ⟨(⟨"BoyBishop$Chronicle", "tell", "(ILBoyBishop$Choir;LBoyBishop$Rule;)V"⟩, 5), (List.mem_append_right _ (List.mem_append_right _ (List.mem_append_left _ (List.mem_of_getElem? (i := 9) rfl)))), rfl⟩)) rfl
theorem tw_1023 : (Jvm.Cond.methodLink "BoyBishop" (320 : Nat) ({ cls := "BoyBishop$Chronicle", name := "study", desc := "(LBoyBishop$Whole;[LBoyBishop$Rule;I)V" } : Jvm.MethodName)) ∈ gT := gT_in (List.mem_append_right _ (List.mem_append_right _ (List.mem_append_right _ (List.mem_append_right _ (List.mem_append_right _ (List.mem_append_left _ (List.mem_of_getElem? (i := 63) rfl))))))) rfl
theorem tw_1024 : (Jvm.Cond.instanceMethod ({ cls := "BoyBishop$Chronicle", name := "study", desc := "(LBoyBishop$Whole;[LBoyBishop$Rule;I)V" } : Jvm.MethodName)) ∈ gT := gT_in (List.mem_append_right _ (List.mem_append_right _ (List.mem_append_right _ (List.mem_append_right _ (List.mem_append_right _ (List.mem_append_left _ (List.mem_of_getElem? (i := 64) rfl))))))) rfl
theorem tw_1025 : (Jvm.Cond.selects "BoyBishop$Chronicle" ({ cls := "BoyBishop$Chronicle", name := "study", desc := "(LBoyBishop$Whole;[LBoyBishop$Rule;I)V" } : Jvm.MethodName) ({ cls := "BoyBishop$Chronicle", name := "study", desc := "(LBoyBishop$Whole;[LBoyBishop$Rule;I)V" } : Jvm.MethodName)) ∈ gT := gT_in (List.mem_append_right _ (List.mem_append_right _ (List.mem_append_right _ (List.mem_append_right _ (List.mem_append_right _ (List.mem_append_left _ (List.mem_of_getElem? (i := 65) rfl))))))) rfl
theorem tw_1026 : (Jvm.Cond.code ({ cls := "BoyBishop$Chronicle", name := "study", desc := "(LBoyBishop$Whole;[LBoyBishop$Rule;I)V" } : Jvm.MethodName) prog_4_method_2_code (5 : Nat) (Option.none : Option Jvm.ClassFile.FieldType)) ∈ gT := gT_in (List.mem_append_right _ (List.mem_append_right _ (List.mem_append_right _ (List.mem_append_right _ (List.mem_append_right _ (List.mem_append_left _ (List.mem_of_getElem? (i := 66) rfl))))))) rfl
theorem tw_1027 : (Jvm.Cond.methodLink "BoyBishop$Chronicle" (42 : Nat) ({ cls := "BoyBishop$Chronicle", name := "tell", desc := "(ILBoyBishop$Choir;LBoyBishop$Rule;)V" } : Jvm.MethodName)) ∈ gT := gT_in (List.mem_append_right _ (List.mem_append_right _ (List.mem_append_right _ (List.mem_append_right _ (List.mem_append_right _ (List.mem_append_left _ (List.mem_of_getElem? (i := 67) rfl))))))) rfl
theorem tw_1029 : (Jvm.Cond.instanceMethod ({ cls := "BoyBishop$Chronicle", name := "tell", desc := "(ILBoyBishop$Choir;LBoyBishop$Rule;)V" } : Jvm.MethodName)) ∈ gT := gT_in (List.mem_append_right _ (List.mem_append_right _ (List.mem_append_right _ (List.mem_append_right _ (List.mem_append_right _ (List.mem_append_left _ (List.mem_of_getElem? (i := 69) rfl))))))) rfl
theorem tw_1030 : (Jvm.Cond.code ({ cls := "BoyBishop$Chronicle", name := "tell", desc := "(ILBoyBishop$Choir;LBoyBishop$Rule;)V" } : Jvm.MethodName) prog_4_method_3_code (5 : Nat) (Option.none : Option Jvm.ClassFile.FieldType)) ∈ gT := gT_in (List.mem_append_right _ (List.mem_append_right _ (List.mem_append_right _ (List.mem_append_right _ (List.mem_append_right _ (List.mem_append_left _ (List.mem_of_getElem? (i := 70) rfl))))))) rfl
theorem tw_1031 : (Jvm.Cond.methodLink "BoyBishop$Chronicle" (50 : Nat) ({ cls := "BoyBishop$Standing", name := "begin", desc := "(LBoyBishop$Choir;)V" } : Jvm.MethodName)) ∈ gT := gT_in (List.mem_append_right _ (List.mem_append_right _ (List.mem_append_right _ (List.mem_append_right _ (List.mem_append_right _ (List.mem_append_left _ (List.mem_of_getElem? (i := 71) rfl))))))) rfl
theorem tw_1032 : (Jvm.Cond.methodLink "BoyBishop$Chronicle" (54 : Nat) ({ cls := "BoyBishop$Days", name := "pass", desc := "(LBoyBishop$Choir;LBoyBishop$Standing;LBoyBishop$Rule;)Z" } : Jvm.MethodName)) ∈ gT := gT_in (List.mem_append_right _ (List.mem_append_right _ (List.mem_append_right _ (List.mem_append_right _ (List.mem_append_right _ (List.mem_append_left _ (List.mem_of_getElem? (i := 72) rfl))))))) rfl
theorem tw_1033 : (Jvm.Cond.methodLink "BoyBishop$Chronicle" (46 : Nat) ({ cls := "BoyBishop$Chronicle", name := "fits", desc := "(ILBoyBishop$Whole;)Z" } : Jvm.MethodName)) ∈ gT := gT_in (List.mem_append_right _ (List.mem_append_right _ (List.mem_append_right _ (List.mem_append_right _ (List.mem_append_right _ (List.mem_append_left _ (List.mem_of_getElem? (i := 73) rfl))))))) rfl
theorem tw_1035 : (Jvm.Cond.instanceMethod ({ cls := "BoyBishop$Chronicle", name := "fits", desc := "(ILBoyBishop$Whole;)Z" } : Jvm.MethodName)) ∈ gT := gT_in (List.mem_append_right _ (List.mem_append_right _ (List.mem_append_right _ (List.mem_append_right _ (List.mem_append_right _ (List.mem_append_left _ (List.mem_of_getElem? (i := 75) rfl))))))) rfl
theorem tw_1036 : (Jvm.Cond.code ({ cls := "BoyBishop$Chronicle", name := "fits", desc := "(ILBoyBishop$Whole;)Z" } : Jvm.MethodName) prog_4_method_4_code (4 : Nat) (Option.some Jvm.ClassFile.FieldType.boolean)) ∈ gT := gT_in (List.mem_append_right _ (List.mem_append_right _ (List.mem_append_right _ (List.mem_append_right _ (List.mem_append_right _ (List.mem_append_left _ (List.mem_of_getElem? (i := 76) rfl))))))) rfl
theorem tw_1049 : (Jvm.Cond.methodLink "BoyBishop" (330 : Nat) ({ cls := "BoyBishop$Chronicle", name := "bestDay", desc := "()I" } : Jvm.MethodName)) ∈ gT := gT_in (List.mem_append_right _ (List.mem_append_right _ (List.mem_append_right _ (List.mem_append_right _ (List.mem_append_right _ (List.mem_append_left _ (List.mem_of_getElem? (i := 89) rfl))))))) rfl
theorem tw_1050 : (Jvm.Cond.instanceMethod ({ cls := "BoyBishop$Chronicle", name := "bestDay", desc := "()I" } : Jvm.MethodName)) ∈ gT := gT_in (List.mem_append_right _ (List.mem_append_right _ (List.mem_append_right _ (List.mem_append_right _ (List.mem_append_right _ (List.mem_append_left _ (List.mem_of_getElem? (i := 90) rfl))))))) rfl
theorem tw_1051 : (Jvm.Cond.selects "BoyBishop$Chronicle" ({ cls := "BoyBishop$Chronicle", name := "bestDay", desc := "()I" } : Jvm.MethodName) ({ cls := "BoyBishop$Chronicle", name := "bestDay", desc := "()I" } : Jvm.MethodName)) ∈ gT := gT_in (List.mem_append_right _ (List.mem_append_right _ (List.mem_append_right _ (List.mem_append_right _ (List.mem_append_right _ (List.mem_append_left _ (List.mem_of_getElem? (i := 91) rfl))))))) rfl
theorem tw_1052 : (Jvm.Cond.code ({ cls := "BoyBishop$Chronicle", name := "bestDay", desc := "()I" } : Jvm.MethodName) prog_4_method_7_code (5 : Nat) (Option.some Jvm.ClassFile.FieldType.int)) ∈ gT := gT_in (List.mem_append_right _ (List.mem_append_right _ (List.mem_append_right _ (List.mem_append_right _ (List.mem_append_right _ (List.mem_append_left _ (List.mem_of_getElem? (i := 92) rfl))))))) rfl
theorem tw_1062 : (Jvm.Cond.methodLink "BoyBishop" (333 : Nat) ({ cls := "BoyBishop$Chronicle", name := "mostAlike", desc := "(I)I" } : Jvm.MethodName)) ∈ gT := gT_in (List.mem_append_right _ (List.mem_append_right _ (List.mem_append_right _ (List.mem_append_right _ (List.mem_append_right _ (List.mem_append_left _ (List.mem_of_getElem? (i := 102) rfl))))))) rfl
theorem tw_225 : (Jvm.Cond.fieldLink "BoyBishop$Chronicle" (60 : Nat) "BoyBishop$Standing" "bishop" "I") ∈ gT := gT_in (List.mem_append_right _ (List.mem_append_left _ (List.mem_of_getElem? (i := 225) rfl))) rfl
theorem tw_283 : (Jvm.Cond.fieldLink "BoyBishop$Chronicle" (36 : Nat) "BoyBishop$Whole" "choir" "LBoyBishop$Choir;") ∈ gT := gT_in (List.mem_append_right _ (List.mem_append_right _ (List.mem_append_left _ (List.mem_of_getElem? (i := 43) rfl)))) rfl
theorem tw_291 : (Jvm.Cond.fieldLink "BoyBishop$Chronicle" (63 : Nat) "BoyBishop$Whole" "notes" "I") ∈ gT := gT_in (List.mem_append_right _ (List.mem_append_right _ (List.mem_append_left _ (List.mem_of_getElem? (i := 51) rfl)))) rfl
theorem tw_294 : (Jvm.Cond.fieldLink "BoyBishop$Chronicle" (66 : Nat) "BoyBishop$Whole" "noteDay" "[I") ∈ gT := gT_in (List.mem_append_right _ (List.mem_append_right _ (List.mem_append_left _ (List.mem_of_getElem? (i := 54) rfl)))) rfl
theorem tw_297 : (Jvm.Cond.fieldLink "BoyBishop$Chronicle" (69 : Nat) "BoyBishop$Whole" "noteBishop" "[I") ∈ gT := gT_in (List.mem_append_right _ (List.mem_append_right _ (List.mem_append_left _ (List.mem_of_getElem? (i := 57) rfl)))) rfl
theorem tw_404 : (Jvm.Cond.fieldLink "BoyBishop$Chronicle" (9 : Nat) "BoyBishop$Chronicle" "days" "LBoyBishop$Days;") ∈ gT := gT_in (List.mem_append_right _ (List.mem_append_right _ (List.mem_append_left _ (List.mem_of_getElem? (i := 164) rfl)))) rfl
theorem tw_405 : (Jvm.Cond.fieldLink "BoyBishop$Chronicle" (18 : Nat) "BoyBishop$Chronicle" "standing" "LBoyBishop$Standing;") ∈ gT := gT_in (List.mem_append_right _ (List.mem_append_right _ (List.mem_append_left _ (List.mem_of_getElem? (i := 165) rfl)))) rfl
theorem tw_407 : (Jvm.Cond.fieldLink "BoyBishop$Chronicle" (28 : Nat) "BoyBishop$Chronicle" "toldOf" "[LBoyBishop$Choir;") ∈ gT := gT_in (List.mem_append_right _ (List.mem_append_right _ (List.mem_append_left _ (List.mem_of_getElem? (i := 167) rfl)))) rfl
theorem tw_409 : (Jvm.Cond.fieldLink "BoyBishop" (324 : Nat) "BoyBishop$Chronicle" "fitting" "I") ∈ gT := gT_in (List.mem_append_right _ (List.mem_append_right _ (List.mem_append_left _ (List.mem_of_getElem? (i := 169) rfl)))) rfl
theorem tw_433 : (Jvm.Cond.fieldLink "BoyBishop" (85 : Nat) "BoyBishop" "chronicle" "LBoyBishop$Chronicle;") ∈ gT := gT_in (List.mem_append_right _ (List.mem_append_right _ (List.mem_append_left _ (List.mem_of_getElem? (i := 193) rfl)))) rfl
theorem tw_618 : (Jvm.Cond.instanceMethod ({ cls := "BoyBishop$Standing", name := "begin", desc := "(LBoyBishop$Choir;)V" } : Jvm.MethodName)) ∈ gT := gT_in (List.mem_append_right _ (List.mem_append_right _ (List.mem_append_right _ (List.mem_append_left _ (List.mem_of_getElem? (i := 138) rfl))))) rfl
theorem tw_619 : (Jvm.Cond.selects "BoyBishop$Standing" ({ cls := "BoyBishop$Standing", name := "begin", desc := "(LBoyBishop$Choir;)V" } : Jvm.MethodName) ({ cls := "BoyBishop$Standing", name := "begin", desc := "(LBoyBishop$Choir;)V" } : Jvm.MethodName)) ∈ gT := gT_in (List.mem_append_right _ (List.mem_append_right _ (List.mem_append_right _ (List.mem_append_left _ (List.mem_of_getElem? (i := 139) rfl))))) rfl
theorem tw_620 : (Jvm.Cond.code ({ cls := "BoyBishop$Standing", name := "begin", desc := "(LBoyBishop$Choir;)V" } : Jvm.MethodName) prog_10_method_2_code (2 : Nat) (Option.none : Option Jvm.ClassFile.FieldType)) ∈ gT := gT_in (List.mem_append_right _ (List.mem_append_right _ (List.mem_append_right _ (List.mem_append_left _ (List.mem_of_getElem? (i := 140) rfl))))) rfl
theorem tw_916 : (Jvm.Cond.methodLink "BoyBishop$Poll" (107 : Nat) ({ cls := "BoyBishop$Poll", name := "countWhoWantMore", desc := "(II)I" } : Jvm.MethodName)) ∈ gT := gT_in (List.mem_append_right _ (List.mem_append_right _ (List.mem_append_right _ (List.mem_append_right _ (List.mem_append_left _ (List.mem_of_getElem? (i := 196) rfl)))))) rfl
theorem tw_918 : (Jvm.Cond.instanceMethod ({ cls := "BoyBishop$Poll", name := "countWhoWantMore", desc := "(II)I" } : Jvm.MethodName)) ∈ gT := gT_in (List.mem_append_right _ (List.mem_append_right _ (List.mem_append_right _ (List.mem_append_right _ (List.mem_append_left _ (List.mem_of_getElem? (i := 198) rfl)))))) rfl
theorem tw_919 : (Jvm.Cond.code ({ cls := "BoyBishop$Poll", name := "countWhoWantMore", desc := "(II)I" } : Jvm.MethodName) prog_7_method_10_code (5 : Nat) (Option.some Jvm.ClassFile.FieldType.int)) ∈ gT := gT_in (List.mem_append_right _ (List.mem_append_right _ (List.mem_append_right _ (List.mem_append_right _ (List.mem_append_left _ (List.mem_of_getElem? (i := 199) rfl)))))) rfl
theorem tw_924 : (Jvm.Cond.methodLink "BoyBishop$Poll" (110 : Nat) ({ cls := "BoyBishop$Poll", name := "isAheadOfEach", desc := "(I)Z" } : Jvm.MethodName)) ∈ gT := gT_in (List.mem_append_right _ (List.mem_append_right _ (List.mem_append_right _ (List.mem_append_right _ (List.mem_append_left _ (List.mem_of_getElem? (i := 204) rfl)))))) rfl
theorem tw_926 : (Jvm.Cond.instanceMethod ({ cls := "BoyBishop$Poll", name := "isAheadOfEach", desc := "(I)Z" } : Jvm.MethodName)) ∈ gT := gT_in (List.mem_append_right _ (List.mem_append_right _ (List.mem_append_right _ (List.mem_append_right _ (List.mem_append_left _ (List.mem_of_getElem? (i := 206) rfl)))))) rfl
theorem tw_927 : (Jvm.Cond.code ({ cls := "BoyBishop$Poll", name := "isAheadOfEach", desc := "(I)Z" } : Jvm.MethodName) prog_7_method_12_code (3 : Nat) (Option.some Jvm.ClassFile.FieldType.boolean)) ∈ gT := gT_in (List.mem_append_right _ (List.mem_append_right _ (List.mem_append_right _ (List.mem_append_right _ (List.mem_append_left _ (List.mem_of_getElem? (i := 207) rfl)))))) rfl
theorem tw_936 : (Jvm.Cond.methodLink "BoyBishop$Poll" (117 : Nat) ({ cls := "java/lang/Math", name := "max", desc := "(II)I" } : Jvm.MethodName)) ∈ gT := gT_in (List.mem_append_right _ (List.mem_append_right _ (List.mem_append_right _ (List.mem_append_right _ (List.mem_append_left _ (List.mem_of_getElem? (i := 216) rfl)))))) rfl
theorem dX11_look_0 : decode cX11_look 0 = .ok (.aload_n 0, 1) := by decide +kernel
theorem dX11_look_1 : decode cX11_look 1 = .ok (.getfield 45, 3) := by decide +kernel
theorem dX11_look_4 : decode cX11_look 4 = .ok (.getfield 53, 3) := by decide +kernel
theorem dX11_look_7 : decode cX11_look 7 = .ok (.getfield 194, 3) := by decide +kernel
theorem dX11_look_10 : decode cX11_look 10 = .ok (.ifCond .eq 12, 3) := by decide +kernel
theorem dX11_look_13 : decode cX11_look 13 = .ok (.iload_n 1, 1) := by decide +kernel
theorem dX11_look_14 : decode cX11_look 14 = .ok (.ifCond .lt 8, 3) := by decide +kernel
theorem dX11_look_17 : decode cX11_look 17 = .ok (.iload_n 1, 1) := by decide +kernel
theorem dX11_look_18 : decode cX11_look 18 = .ok (.iconst 1, 1) := by decide +kernel
theorem dX11_look_19 : decode cX11_look 19 = .ok (.if_icmp .le 5, 3) := by decide +kernel
theorem dX11_look_22 : decode cX11_look 22 = .ok (.iconst (-1), 1) := by decide +kernel
theorem dX11_look_23 : decode cX11_look 23 = .ok (.ireturn, 1) := by decide +kernel
theorem dX11_look_24 : decode cX11_look 24 = .ok (.aload_n 0, 1) := by decide +kernel
theorem dX11_look_25 : decode cX11_look 25 = .ok (.getfield 85, 3) := by decide +kernel
theorem dX11_look_28 : decode cX11_look 28 = .ok (.aload_n 0, 1) := by decide +kernel
theorem dX11_look_29 : decode cX11_look 29 = .ok (.getfield 45, 3) := by decide +kernel
theorem dX11_look_32 : decode cX11_look 32 = .ok (.aload_n 0, 1) := by decide +kernel
theorem dX11_look_33 : decode cX11_look 33 = .ok (.getfield 32, 3) := by decide +kernel
theorem dX11_look_36 : decode cX11_look 36 = .ok (.aload_n 0, 1) := by decide +kernel
theorem dX11_look_37 : decode cX11_look 37 = .ok (.getfield 130, 3) := by decide +kernel
theorem dX11_look_40 : decode cX11_look 40 = .ok (.invokevirtual 320, 3) := by decide +kernel
theorem dX11_look_43 : decode cX11_look 43 = .ok (.aload_n 0, 1) := by decide +kernel
theorem dX11_look_44 : decode cX11_look 44 = .ok (.getfield 85, 3) := by decide +kernel
theorem dX11_look_47 : decode cX11_look 47 = .ok (.getfield 324, 3) := by decide +kernel
theorem dX11_look_50 : decode cX11_look 50 = .ok (.ifCond .ne 6, 3) := by decide +kernel
theorem dX11_look_53 : decode cX11_look 53 = .ok (.bipush (-2), 2) := by decide +kernel
theorem dX11_look_55 : decode cX11_look 55 = .ok (.ireturn, 1) := by decide +kernel
theorem dX11_look_56 : decode cX11_look 56 = .ok (.aload_n 0, 1) := by decide +kernel
theorem dX11_look_57 : decode cX11_look 57 = .ok (.getfield 85, 3) := by decide +kernel
theorem dX11_look_60 : decode cX11_look 60 = .ok (.invokevirtual 330, 3) := by decide +kernel
theorem dX11_look_63 : decode cX11_look 63 = .ok (.istore_n 2, 1) := by decide +kernel
theorem dX11_look_64 : decode cX11_look 64 = .ok (.iload_n 1, 1) := by decide +kernel
theorem dX11_look_65 : decode cX11_look 65 = .ok (.ifCond .ne 7, 3) := by decide +kernel
theorem dX11_look_68 : decode cX11_look 68 = .ok (.iload_n 2, 1) := by decide +kernel
theorem dX11_look_69 : decode cX11_look 69 = .ok (.goto 11, 3) := by decide +kernel
theorem dX11_look_72 : decode cX11_look 72 = .ok (.aload_n 0, 1) := by decide +kernel
theorem dX11_look_73 : decode cX11_look 73 = .ok (.getfield 85, 3) := by decide +kernel
theorem dX11_look_76 : decode cX11_look 76 = .ok (.iload_n 2, 1) := by decide +kernel
theorem dX11_look_77 : decode cX11_look 77 = .ok (.invokevirtual 333, 3) := by decide +kernel
theorem dX11_look_80 : decode cX11_look 80 = .ok (.ireturn, 1) := by decide +kernel
theorem dX2_fits_0 : decode cX2_fits 0 = .ok (.iconst 0, 1) := by decide +kernel
theorem dX2_fits_1 : decode cX2_fits 1 = .ok (.istore_n 3, 1) := by decide +kernel
theorem dX2_fits_2 : decode cX2_fits 2 = .ok (.iload_n 3, 1) := by decide +kernel
theorem dX2_fits_3 : decode cX2_fits 3 = .ok (.aload_n 2, 1) := by decide +kernel
theorem dX2_fits_4 : decode cX2_fits 4 = .ok (.getfield 63, 3) := by decide +kernel
theorem dX2_fits_7 : decode cX2_fits 7 = .ok (.if_icmp .ge 36, 3) := by decide +kernel
theorem dX2_fits_10 : decode cX2_fits 10 = .ok (.aload_n 0, 1) := by decide +kernel
theorem dX2_fits_11 : decode cX2_fits 11 = .ok (.getfield 22, 3) := by decide +kernel
theorem dX2_fits_14 : decode cX2_fits 14 = .ok (.iload_n 1, 1) := by decide +kernel
theorem dX2_fits_15 : decode cX2_fits 15 = .ok (.bipush 61, 2) := by decide +kernel
theorem dX2_fits_17 : decode cX2_fits 17 = .ok (.imul, 1) := by decide +kernel
theorem dX2_fits_18 : decode cX2_fits 18 = .ok (.aload_n 2, 1) := by decide +kernel
theorem dX2_fits_19 : decode cX2_fits 19 = .ok (.getfield 66, 3) := by decide +kernel
theorem dX2_fits_22 : decode cX2_fits 22 = .ok (.iload_n 3, 1) := by decide +kernel
theorem dX2_fits_23 : decode cX2_fits 23 = .ok (.iaload, 1) := by decide +kernel
theorem dX2_fits_24 : decode cX2_fits 24 = .ok (.iadd, 1) := by decide +kernel
theorem dX2_fits_25 : decode cX2_fits 25 = .ok (.iaload, 1) := by decide +kernel
theorem dX2_fits_26 : decode cX2_fits 26 = .ok (.aload_n 2, 1) := by decide +kernel
theorem dX2_fits_27 : decode cX2_fits 27 = .ok (.getfield 69, 3) := by decide +kernel
theorem dX2_fits_30 : decode cX2_fits 30 = .ok (.iload_n 3, 1) := by decide +kernel
theorem dX2_fits_31 : decode cX2_fits 31 = .ok (.iaload, 1) := by decide +kernel
theorem dX2_fits_32 : decode cX2_fits 32 = .ok (.if_icmp .eq 5, 3) := by decide +kernel
theorem dX2_fits_35 : decode cX2_fits 35 = .ok (.iconst 0, 1) := by decide +kernel
theorem dX2_fits_36 : decode cX2_fits 36 = .ok (.ireturn, 1) := by decide +kernel
theorem dX2_fits_37 : decode cX2_fits 37 = .ok (.iinc 3 1, 3) := by decide +kernel
theorem dX2_fits_40 : decode cX2_fits 40 = .ok (.goto (-38), 3) := by decide +kernel
theorem dX2_fits_43 : decode cX2_fits 43 = .ok (.iconst 1, 1) := by decide +kernel
theorem dX2_fits_44 : decode cX2_fits 44 = .ok (.ireturn, 1) := by decide +kernel
theorem dX2_study_0 : decode cX2_study 0 = .ok (.aload_n 0, 1) := by decide +kernel
theorem dX2_study_1 : decode cX2_study 1 = .ok (.iconst 0, 1) := by decide +kernel
theorem dX2_study_2 : decode cX2_study 2 = .ok (.putfield 32, 3) := by decide +kernel
theorem dX2_study_5 : decode cX2_study 5 = .ok (.iconst 0, 1) := by decide +kernel
theorem dX2_study_6 : decode cX2_study 6 = .ok (.istore 4, 2) := by decide +kernel
theorem dX2_study_8 : decode cX2_study 8 = .ok (.iload 4, 2) := by decide +kernel
theorem dX2_study_10 : decode cX2_study 10 = .ok (.iload_n 3, 1) := by decide +kernel
theorem dX2_study_11 : decode cX2_study 11 = .ok (.if_icmp .gt 78, 3) := by decide +kernel
theorem dX2_study_14 : decode cX2_study 14 = .ok (.iload 4, 2) := by decide +kernel
theorem dX2_study_16 : decode cX2_study 16 = .ok (.bipush 7, 2) := by decide +kernel
theorem dX2_study_18 : decode cX2_study 18 = .ok (.if_icmp .ge 71, 3) := by decide +kernel
theorem dX2_study_21 : decode cX2_study 21 = .ok (.aload_n 0, 1) := by decide +kernel
theorem dX2_study_22 : decode cX2_study 22 = .ok (.getfield 28, 3) := by decide +kernel
theorem dX2_study_25 : decode cX2_study 25 = .ok (.iload 4, 2) := by decide +kernel
theorem dX2_study_27 : decode cX2_study 27 = .ok (.aaload, 1) := by decide +kernel
theorem dX2_study_28 : decode cX2_study 28 = .ok (.aload_n 1, 1) := by decide +kernel
theorem dX2_study_29 : decode cX2_study 29 = .ok (.getfield 36, 3) := by decide +kernel
theorem dX2_study_32 : decode cX2_study 32 = .ok (.if_acmp .eq 28, 3) := by decide +kernel
theorem dX2_study_35 : decode cX2_study 35 = .ok (.aload_n 0, 1) := by decide +kernel
theorem dX2_study_36 : decode cX2_study 36 = .ok (.iload 4, 2) := by decide +kernel
theorem dX2_study_38 : decode cX2_study 38 = .ok (.aload_n 1, 1) := by decide +kernel
theorem dX2_study_39 : decode cX2_study 39 = .ok (.getfield 36, 3) := by decide +kernel
theorem dX2_study_42 : decode cX2_study 42 = .ok (.iload 4, 2) := by decide +kernel
theorem dX2_study_44 : decode cX2_study 44 = .ok (.ifCond .ne 7, 3) := by decide +kernel
theorem dX2_study_47 : decode cX2_study 47 = .ok (.aconst_null, 1) := by decide +kernel
theorem dX2_study_48 : decode cX2_study 48 = .ok (.goto 9, 3) := by decide +kernel
theorem dX2_study_51 : decode cX2_study 51 = .ok (.aload_n 2, 1) := by decide +kernel
theorem dX2_study_52 : decode cX2_study 52 = .ok (.iload 4, 2) := by decide +kernel
theorem dX2_study_54 : decode cX2_study 54 = .ok (.iconst 1, 1) := by decide +kernel
theorem dX2_study_55 : decode cX2_study 55 = .ok (.isub, 1) := by decide +kernel
theorem dX2_study_56 : decode cX2_study 56 = .ok (.aaload, 1) := by decide +kernel
theorem dX2_study_57 : decode cX2_study 57 = .ok (.invokevirtual 42, 3) := by decide +kernel
theorem dX2_study_60 : decode cX2_study 60 = .ok (.aload_n 0, 1) := by decide +kernel
theorem dX2_study_61 : decode cX2_study 61 = .ok (.iload 4, 2) := by decide +kernel
theorem dX2_study_63 : decode cX2_study 63 = .ok (.aload_n 1, 1) := by decide +kernel
theorem dX2_study_64 : decode cX2_study 64 = .ok (.invokevirtual 46, 3) := by decide +kernel
theorem dX2_study_67 : decode cX2_study 67 = .ok (.ifCond .eq 16, 3) := by decide +kernel
theorem dX2_study_70 : decode cX2_study 70 = .ok (.aload_n 0, 1) := by decide +kernel
theorem dX2_study_71 : decode cX2_study 71 = .ok (.dup, 1) := by decide +kernel
theorem dX2_study_72 : decode cX2_study 72 = .ok (.getfield 32, 3) := by decide +kernel
theorem dX2_study_75 : decode cX2_study 75 = .ok (.iconst 1, 1) := by decide +kernel
theorem dX2_study_76 : decode cX2_study 76 = .ok (.iload 4, 2) := by decide +kernel
theorem dX2_study_78 : decode cX2_study 78 = .ok (.ishl, 1) := by decide +kernel
theorem dX2_study_79 : decode cX2_study 79 = .ok (.ior, 1) := by decide +kernel
theorem dX2_study_80 : decode cX2_study 80 = .ok (.putfield 32, 3) := by decide +kernel
theorem dX2_study_83 : decode cX2_study 83 = .ok (.iinc 4 1, 3) := by decide +kernel
theorem dX2_study_86 : decode cX2_study 86 = .ok (.goto (-78), 3) := by decide +kernel
theorem dX2_study_89 : decode cX2_study 89 = .ok (.return_, 1) := by decide +kernel
theorem dX2_tell_0 : decode cX2_tell 0 = .ok (.aload_n 0, 1) := by decide +kernel
theorem dX2_tell_1 : decode cX2_tell 1 = .ok (.getfield 18, 3) := by decide +kernel
theorem dX2_tell_4 : decode cX2_tell 4 = .ok (.aload_n 2, 1) := by decide +kernel
theorem dX2_tell_5 : decode cX2_tell 5 = .ok (.invokevirtual 50, 3) := by decide +kernel
theorem dX2_tell_8 : decode cX2_tell 8 = .ok (.iconst 0, 1) := by decide +kernel
theorem dX2_tell_9 : decode cX2_tell 9 = .ok (.istore 4, 2) := by decide +kernel
theorem dX2_tell_11 : decode cX2_tell 11 = .ok (.iload 4, 2) := by decide +kernel
theorem dX2_tell_13 : decode cX2_tell 13 = .ok (.bipush 61, 2) := by decide +kernel
theorem dX2_tell_15 : decode cX2_tell 15 = .ok (.if_icmp .ge 42, 3) := by decide +kernel
theorem dX2_tell_18 : decode cX2_tell 18 = .ok (.aload_n 0, 1) := by decide +kernel
theorem dX2_tell_19 : decode cX2_tell 19 = .ok (.getfield 9, 3) := by decide +kernel
theorem dX2_tell_22 : decode cX2_tell 22 = .ok (.aload_n 2, 1) := by decide +kernel
theorem dX2_tell_23 : decode cX2_tell 23 = .ok (.aload_n 0, 1) := by decide +kernel
theorem dX2_tell_24 : decode cX2_tell 24 = .ok (.getfield 18, 3) := by decide +kernel
theorem dX2_tell_27 : decode cX2_tell 27 = .ok (.aload_n 3, 1) := by decide +kernel
theorem dX2_tell_28 : decode cX2_tell 28 = .ok (.invokevirtual 54, 3) := by decide +kernel
theorem dX2_tell_31 : decode cX2_tell 31 = .ok (.pop, 1) := by decide +kernel
theorem dX2_tell_32 : decode cX2_tell 32 = .ok (.aload_n 0, 1) := by decide +kernel
theorem dX2_tell_33 : decode cX2_tell 33 = .ok (.getfield 22, 3) := by decide +kernel
theorem dX2_tell_36 : decode cX2_tell 36 = .ok (.iload_n 1, 1) := by decide +kernel
theorem dX2_tell_37 : decode cX2_tell 37 = .ok (.bipush 61, 2) := by decide +kernel
theorem dX2_tell_39 : decode cX2_tell 39 = .ok (.imul, 1) := by decide +kernel
theorem dX2_tell_40 : decode cX2_tell 40 = .ok (.iload 4, 2) := by decide +kernel
theorem dX2_tell_42 : decode cX2_tell 42 = .ok (.iadd, 1) := by decide +kernel
theorem dX2_tell_43 : decode cX2_tell 43 = .ok (.aload_n 0, 1) := by decide +kernel
theorem dX2_tell_44 : decode cX2_tell 44 = .ok (.getfield 18, 3) := by decide +kernel
theorem dX2_tell_47 : decode cX2_tell 47 = .ok (.getfield 60, 3) := by decide +kernel
theorem dX2_tell_50 : decode cX2_tell 50 = .ok (.iastore, 1) := by decide +kernel
theorem dX2_tell_51 : decode cX2_tell 51 = .ok (.iinc 4 1, 3) := by decide +kernel
theorem dX2_tell_54 : decode cX2_tell 54 = .ok (.goto (-43), 3) := by decide +kernel
theorem dX2_tell_57 : decode cX2_tell 57 = .ok (.aload_n 0, 1) := by decide +kernel
theorem dX2_tell_58 : decode cX2_tell 58 = .ok (.getfield 28, 3) := by decide +kernel
theorem dX2_tell_61 : decode cX2_tell 61 = .ok (.iload_n 1, 1) := by decide +kernel
theorem dX2_tell_62 : decode cX2_tell 62 = .ok (.aload_n 2, 1) := by decide +kernel
theorem dX2_tell_63 : decode cX2_tell 63 = .ok (.aastore, 1) := by decide +kernel
theorem dX2_tell_64 : decode cX2_tell 64 = .ok (.return_, 1) := by decide +kernel
theorem dX5_aheadOfEach_0 : decode cX5_aheadOfEach 0 = .ok (.iconst 0, 1) := by decide +kernel
theorem dX5_aheadOfEach_1 : decode cX5_aheadOfEach 1 = .ok (.istore_n 1, 1) := by decide +kernel
theorem dX5_aheadOfEach_2 : decode cX5_aheadOfEach 2 = .ok (.iload_n 1, 1) := by decide +kernel
theorem dX5_aheadOfEach_3 : decode cX5_aheadOfEach 3 = .ok (.aload_n 0, 1) := by decide +kernel
theorem dX5_aheadOfEach_4 : decode cX5_aheadOfEach 4 = .ok (.getfield 36, 3) := by decide +kernel
theorem dX5_aheadOfEach_7 : decode cX5_aheadOfEach 7 = .ok (.if_icmp .ge 30, 3) := by decide +kernel
theorem dX5_aheadOfEach_10 : decode cX5_aheadOfEach 10 = .ok (.aload_n 0, 1) := by decide +kernel
theorem dX5_aheadOfEach_11 : decode cX5_aheadOfEach 11 = .ok (.getfield 43, 3) := by decide +kernel
theorem dX5_aheadOfEach_14 : decode cX5_aheadOfEach 14 = .ok (.iload_n 1, 1) := by decide +kernel
theorem dX5_aheadOfEach_15 : decode cX5_aheadOfEach 15 = .ok (.invokestatic 57, 3) := by decide +kernel
theorem dX5_aheadOfEach_18 : decode cX5_aheadOfEach 18 = .ok (.ifCond .eq 13, 3) := by decide +kernel
theorem dX5_aheadOfEach_21 : decode cX5_aheadOfEach 21 = .ok (.aload_n 0, 1) := by decide +kernel
theorem dX5_aheadOfEach_22 : decode cX5_aheadOfEach 22 = .ok (.iload_n 1, 1) := by decide +kernel
theorem dX5_aheadOfEach_23 : decode cX5_aheadOfEach 23 = .ok (.invokevirtual 110, 3) := by decide +kernel
theorem dX5_aheadOfEach_26 : decode cX5_aheadOfEach 26 = .ok (.ifCond .eq 5, 3) := by decide +kernel
theorem dX5_aheadOfEach_29 : decode cX5_aheadOfEach 29 = .ok (.iload_n 1, 1) := by decide +kernel
theorem dX5_aheadOfEach_30 : decode cX5_aheadOfEach 30 = .ok (.ireturn, 1) := by decide +kernel
theorem dX5_aheadOfEach_31 : decode cX5_aheadOfEach 31 = .ok (.iinc 1 1, 3) := by decide +kernel
theorem dX5_aheadOfEach_34 : decode cX5_aheadOfEach 34 = .ok (.goto (-32), 3) := by decide +kernel
theorem dX5_aheadOfEach_37 : decode cX5_aheadOfEach 37 = .ok (.iconst (-1), 1) := by decide +kernel
theorem dX5_aheadOfEach_38 : decode cX5_aheadOfEach 38 = .ok (.ireturn, 1) := by decide +kernel
theorem dX5_countWhoWantMore_0 : decode cX5_countWhoWantMore 0 = .ok (.iconst 0, 1) := by decide +kernel
theorem dX5_countWhoWantMore_1 : decode cX5_countWhoWantMore 1 = .ok (.istore_n 3, 1) := by decide +kernel
theorem dX5_countWhoWantMore_2 : decode cX5_countWhoWantMore 2 = .ok (.iconst 0, 1) := by decide +kernel
theorem dX5_countWhoWantMore_3 : decode cX5_countWhoWantMore 3 = .ok (.istore 4, 2) := by decide +kernel
theorem dX5_countWhoWantMore_5 : decode cX5_countWhoWantMore 5 = .ok (.iload 4, 2) := by decide +kernel
theorem dX5_countWhoWantMore_7 : decode cX5_countWhoWantMore 7 = .ok (.aload_n 0, 1) := by decide +kernel
theorem dX5_countWhoWantMore_8 : decode cX5_countWhoWantMore 8 = .ok (.getfield 36, 3) := by decide +kernel
theorem dX5_countWhoWantMore_11 : decode cX5_countWhoWantMore 11 = .ok (.if_icmp .ge 23, 3) := by decide +kernel
theorem dX5_countWhoWantMore_14 : decode cX5_countWhoWantMore 14 = .ok (.aload_n 0, 1) := by decide +kernel
theorem dX5_countWhoWantMore_15 : decode cX5_countWhoWantMore 15 = .ok (.iload 4, 2) := by decide +kernel
theorem dX5_countWhoWantMore_17 : decode cX5_countWhoWantMore 17 = .ok (.iload_n 1, 1) := by decide +kernel
theorem dX5_countWhoWantMore_18 : decode cX5_countWhoWantMore 18 = .ok (.iload_n 2, 1) := by decide +kernel
theorem dX5_countWhoWantMore_19 : decode cX5_countWhoWantMore 19 = .ok (.invokevirtual 94, 3) := by decide +kernel
theorem dX5_countWhoWantMore_22 : decode cX5_countWhoWantMore 22 = .ok (.ifCond .eq 6, 3) := by decide +kernel
theorem dX5_countWhoWantMore_25 : decode cX5_countWhoWantMore 25 = .ok (.iinc 3 1, 3) := by decide +kernel
theorem dX5_countWhoWantMore_28 : decode cX5_countWhoWantMore 28 = .ok (.iinc 4 1, 3) := by decide +kernel
theorem dX5_countWhoWantMore_31 : decode cX5_countWhoWantMore 31 = .ok (.goto (-26), 3) := by decide +kernel
theorem dX5_countWhoWantMore_34 : decode cX5_countWhoWantMore 34 = .ok (.iload_n 3, 1) := by decide +kernel
theorem dX5_countWhoWantMore_35 : decode cX5_countWhoWantMore 35 = .ok (.ireturn, 1) := by decide +kernel
theorem dX5_fewestFirstVotes_0 : decode cX5_fewestFirstVotes 0 = .ok (.aload_n 0, 1) := by decide +kernel
theorem dX5_fewestFirstVotes_1 : decode cX5_fewestFirstVotes 1 = .ok (.getfield 19, 3) := by decide +kernel
theorem dX5_fewestFirstVotes_4 : decode cX5_fewestFirstVotes 4 = .ok (.iconst 0, 1) := by decide +kernel
theorem dX5_fewestFirstVotes_5 : decode cX5_fewestFirstVotes 5 = .ok (.invokestatic 98, 3) := by decide +kernel
theorem dX5_fewestFirstVotes_8 : decode cX5_fewestFirstVotes 8 = .ok (.iconst 0, 1) := by decide +kernel
theorem dX5_fewestFirstVotes_9 : decode cX5_fewestFirstVotes 9 = .ok (.istore_n 2, 1) := by decide +kernel
theorem dX5_fewestFirstVotes_10 : decode cX5_fewestFirstVotes 10 = .ok (.iload_n 2, 1) := by decide +kernel
theorem dX5_fewestFirstVotes_11 : decode cX5_fewestFirstVotes 11 = .ok (.aload_n 0, 1) := by decide +kernel
theorem dX5_fewestFirstVotes_12 : decode cX5_fewestFirstVotes 12 = .ok (.getfield 36, 3) := by decide +kernel
theorem dX5_fewestFirstVotes_15 : decode cX5_fewestFirstVotes 15 = .ok (.if_icmp .ge 31, 3) := by decide +kernel
theorem dX5_fewestFirstVotes_18 : decode cX5_fewestFirstVotes 18 = .ok (.aload_n 0, 1) := by decide +kernel
theorem dX5_fewestFirstVotes_19 : decode cX5_fewestFirstVotes 19 = .ok (.iload_n 2, 1) := by decide +kernel
theorem dX5_fewestFirstVotes_20 : decode cX5_fewestFirstVotes 20 = .ok (.iload_n 1, 1) := by decide +kernel
theorem dX5_fewestFirstVotes_21 : decode cX5_fewestFirstVotes 21 = .ok (.invokevirtual 75, 3) := by decide +kernel
theorem dX5_fewestFirstVotes_24 : decode cX5_fewestFirstVotes 24 = .ok (.istore_n 3, 1) := by decide +kernel
theorem dX5_fewestFirstVotes_25 : decode cX5_fewestFirstVotes 25 = .ok (.iload_n 3, 1) := by decide +kernel
theorem dX5_fewestFirstVotes_26 : decode cX5_fewestFirstVotes 26 = .ok (.iconst (-1), 1) := by decide +kernel
theorem dX5_fewestFirstVotes_27 : decode cX5_fewestFirstVotes 27 = .ok (.if_icmp .eq 13, 3) := by decide +kernel
theorem dX5_fewestFirstVotes_30 : decode cX5_fewestFirstVotes 30 = .ok (.aload_n 0, 1) := by decide +kernel
theorem dX5_fewestFirstVotes_31 : decode cX5_fewestFirstVotes 31 = .ok (.getfield 19, 3) := by decide +kernel
theorem dX5_fewestFirstVotes_34 : decode cX5_fewestFirstVotes 34 = .ok (.iload_n 3, 1) := by decide +kernel
theorem dX5_fewestFirstVotes_35 : decode cX5_fewestFirstVotes 35 = .ok (.dup2, 1) := by decide +kernel
theorem dX5_fewestFirstVotes_36 : decode cX5_fewestFirstVotes 36 = .ok (.iaload, 1) := by decide +kernel
theorem dX5_fewestFirstVotes_37 : decode cX5_fewestFirstVotes 37 = .ok (.iconst 1, 1) := by decide +kernel
theorem dX5_fewestFirstVotes_38 : decode cX5_fewestFirstVotes 38 = .ok (.iadd, 1) := by decide +kernel
theorem dX5_fewestFirstVotes_39 : decode cX5_fewestFirstVotes 39 = .ok (.iastore, 1) := by decide +kernel
theorem dX5_fewestFirstVotes_40 : decode cX5_fewestFirstVotes 40 = .ok (.iinc 2 1, 3) := by decide +kernel
theorem dX5_fewestFirstVotes_43 : decode cX5_fewestFirstVotes 43 = .ok (.goto (-33), 3) := by decide +kernel
theorem dX5_fewestFirstVotes_46 : decode cX5_fewestFirstVotes 46 = .ok (.iconst (-1), 1) := by decide +kernel
theorem dX5_fewestFirstVotes_47 : decode cX5_fewestFirstVotes 47 = .ok (.istore_n 2, 1) := by decide +kernel
theorem dX5_fewestFirstVotes_48 : decode cX5_fewestFirstVotes 48 = .ok (.iconst 0, 1) := by decide +kernel
theorem dX5_fewestFirstVotes_49 : decode cX5_fewestFirstVotes 49 = .ok (.istore_n 3, 1) := by decide +kernel
theorem dX5_fewestFirstVotes_50 : decode cX5_fewestFirstVotes 50 = .ok (.iload_n 3, 1) := by decide +kernel
theorem dX5_fewestFirstVotes_51 : decode cX5_fewestFirstVotes 51 = .ok (.aload_n 0, 1) := by decide +kernel
theorem dX5_fewestFirstVotes_52 : decode cX5_fewestFirstVotes 52 = .ok (.getfield 36, 3) := by decide +kernel
theorem dX5_fewestFirstVotes_55 : decode cX5_fewestFirstVotes 55 = .ok (.if_icmp .ge 39, 3) := by decide +kernel
theorem dX5_fewestFirstVotes_58 : decode cX5_fewestFirstVotes 58 = .ok (.iload_n 1, 1) := by decide +kernel
theorem dX5_fewestFirstVotes_59 : decode cX5_fewestFirstVotes 59 = .ok (.iload_n 3, 1) := by decide +kernel
theorem dX5_fewestFirstVotes_60 : decode cX5_fewestFirstVotes 60 = .ok (.invokestatic 57, 3) := by decide +kernel
theorem dX5_fewestFirstVotes_63 : decode cX5_fewestFirstVotes 63 = .ok (.ifCond .eq 25, 3) := by decide +kernel
theorem dX5_fewestFirstVotes_66 : decode cX5_fewestFirstVotes 66 = .ok (.iload_n 2, 1) := by decide +kernel
theorem dX5_fewestFirstVotes_67 : decode cX5_fewestFirstVotes 67 = .ok (.iconst (-1), 1) := by decide +kernel
theorem dX5_fewestFirstVotes_68 : decode cX5_fewestFirstVotes 68 = .ok (.if_icmp .eq 18, 3) := by decide +kernel
theorem dX5_fewestFirstVotes_71 : decode cX5_fewestFirstVotes 71 = .ok (.aload_n 0, 1) := by decide +kernel
theorem dX5_fewestFirstVotes_72 : decode cX5_fewestFirstVotes 72 = .ok (.getfield 19, 3) := by decide +kernel
theorem dX5_fewestFirstVotes_75 : decode cX5_fewestFirstVotes 75 = .ok (.iload_n 3, 1) := by decide +kernel
theorem dX5_fewestFirstVotes_76 : decode cX5_fewestFirstVotes 76 = .ok (.iaload, 1) := by decide +kernel
theorem dX5_fewestFirstVotes_77 : decode cX5_fewestFirstVotes 77 = .ok (.aload_n 0, 1) := by decide +kernel
theorem dX5_fewestFirstVotes_78 : decode cX5_fewestFirstVotes 78 = .ok (.getfield 19, 3) := by decide +kernel
theorem dX5_fewestFirstVotes_81 : decode cX5_fewestFirstVotes 81 = .ok (.iload_n 2, 1) := by decide +kernel
theorem dX5_fewestFirstVotes_82 : decode cX5_fewestFirstVotes 82 = .ok (.iaload, 1) := by decide +kernel
theorem dX5_fewestFirstVotes_83 : decode cX5_fewestFirstVotes 83 = .ok (.if_icmp .gt 5, 3) := by decide +kernel
theorem dX5_fewestFirstVotes_86 : decode cX5_fewestFirstVotes 86 = .ok (.iload_n 3, 1) := by decide +kernel
theorem dX5_fewestFirstVotes_87 : decode cX5_fewestFirstVotes 87 = .ok (.istore_n 2, 1) := by decide +kernel
theorem dX5_fewestFirstVotes_88 : decode cX5_fewestFirstVotes 88 = .ok (.iinc 3 1, 3) := by decide +kernel
theorem dX5_fewestFirstVotes_91 : decode cX5_fewestFirstVotes 91 = .ok (.goto (-41), 3) := by decide +kernel
theorem dX5_fewestFirstVotes_94 : decode cX5_fewestFirstVotes 94 = .ok (.iconst 0, 1) := by decide +kernel
theorem dX5_fewestFirstVotes_95 : decode cX5_fewestFirstVotes 95 = .ok (.iload_n 2, 1) := by decide +kernel
theorem dX5_fewestFirstVotes_96 : decode cX5_fewestFirstVotes 96 = .ok (.invokestatic 117, 3) := by decide +kernel
theorem dX5_fewestFirstVotes_99 : decode cX5_fewestFirstVotes 99 = .ok (.ireturn, 1) := by decide +kernel
theorem dX5_isAheadOfEach_0 : decode cX5_isAheadOfEach 0 = .ok (.iconst 0, 1) := by decide +kernel
theorem dX5_isAheadOfEach_1 : decode cX5_isAheadOfEach 1 = .ok (.istore_n 2, 1) := by decide +kernel
theorem dX5_isAheadOfEach_2 : decode cX5_isAheadOfEach 2 = .ok (.iload_n 2, 1) := by decide +kernel
theorem dX5_isAheadOfEach_3 : decode cX5_isAheadOfEach 3 = .ok (.aload_n 0, 1) := by decide +kernel
theorem dX5_isAheadOfEach_4 : decode cX5_isAheadOfEach 4 = .ok (.getfield 36, 3) := by decide +kernel
theorem dX5_isAheadOfEach_7 : decode cX5_isAheadOfEach 7 = .ok (.if_icmp .ge 42, 3) := by decide +kernel
theorem dX5_isAheadOfEach_10 : decode cX5_isAheadOfEach 10 = .ok (.iload_n 2, 1) := by decide +kernel
theorem dX5_isAheadOfEach_11 : decode cX5_isAheadOfEach 11 = .ok (.iload_n 1, 1) := by decide +kernel
theorem dX5_isAheadOfEach_12 : decode cX5_isAheadOfEach 12 = .ok (.if_icmp .eq 31, 3) := by decide +kernel
theorem dX5_isAheadOfEach_15 : decode cX5_isAheadOfEach 15 = .ok (.aload_n 0, 1) := by decide +kernel
theorem dX5_isAheadOfEach_16 : decode cX5_isAheadOfEach 16 = .ok (.getfield 43, 3) := by decide +kernel
theorem dX5_isAheadOfEach_19 : decode cX5_isAheadOfEach 19 = .ok (.iload_n 2, 1) := by decide +kernel
theorem dX5_isAheadOfEach_20 : decode cX5_isAheadOfEach 20 = .ok (.invokestatic 57, 3) := by decide +kernel
theorem dX5_isAheadOfEach_23 : decode cX5_isAheadOfEach 23 = .ok (.ifCond .eq 20, 3) := by decide +kernel
theorem dX5_isAheadOfEach_26 : decode cX5_isAheadOfEach 26 = .ok (.aload_n 0, 1) := by decide +kernel
theorem dX5_isAheadOfEach_27 : decode cX5_isAheadOfEach 27 = .ok (.iload_n 1, 1) := by decide +kernel
theorem dX5_isAheadOfEach_28 : decode cX5_isAheadOfEach 28 = .ok (.iload_n 2, 1) := by decide +kernel
theorem dX5_isAheadOfEach_29 : decode cX5_isAheadOfEach 29 = .ok (.invokevirtual 107, 3) := by decide +kernel
theorem dX5_isAheadOfEach_32 : decode cX5_isAheadOfEach 32 = .ok (.aload_n 0, 1) := by decide +kernel
theorem dX5_isAheadOfEach_33 : decode cX5_isAheadOfEach 33 = .ok (.iload_n 2, 1) := by decide +kernel
theorem dX5_isAheadOfEach_34 : decode cX5_isAheadOfEach 34 = .ok (.iload_n 1, 1) := by decide +kernel
theorem dX5_isAheadOfEach_35 : decode cX5_isAheadOfEach 35 = .ok (.invokevirtual 107, 3) := by decide +kernel
theorem dX5_isAheadOfEach_38 : decode cX5_isAheadOfEach 38 = .ok (.if_icmp .gt 5, 3) := by decide +kernel
theorem dX5_isAheadOfEach_41 : decode cX5_isAheadOfEach 41 = .ok (.iconst 0, 1) := by decide +kernel
theorem dX5_isAheadOfEach_42 : decode cX5_isAheadOfEach 42 = .ok (.ireturn, 1) := by decide +kernel
theorem dX5_isAheadOfEach_43 : decode cX5_isAheadOfEach 43 = .ok (.iinc 2 1, 3) := by decide +kernel
theorem dX5_isAheadOfEach_46 : decode cX5_isAheadOfEach 46 = .ok (.goto (-44), 3) := by decide +kernel
theorem dX5_isAheadOfEach_49 : decode cX5_isAheadOfEach 49 = .ok (.iconst 1, 1) := by decide +kernel
theorem dX5_isAheadOfEach_50 : decode cX5_isAheadOfEach 50 = .ok (.ireturn, 1) := by decide +kernel
set_option maxHeartbeats 4000000 in
set_option maxRecDepth 100000 in
theorem t_X2_fits (l : Launch) (dC : Nat → ClassId) (dI : Nat → Nat → Nat) (tys : List (ClassId × FieldType)) (κ : tK) (B : Nat) (ws : va_W) (hT : Ty κ tys B ws) (a0 : Nat) (k_a0 : κ a0 = some 2) (a1 : Int32) (l_a1 : 0 ≤ a1.toInt) (h_a1 : a1.toInt ≤ 6) (a2 : Nat) (k_a2 : κ a2 = some 10) (sz : Nat) : Met l yX2_fits (ws_u yX2_fits cX2_fits 4 (some .boolean)) ({ frames := 0, cells := 0, slots := 0, locals := 0 }) (va_Pc [.ref a0, .int a1, .ref a2] (cPre (dC, dI) tys ws sz)) (va_Qi (fun (r : Int32) (w : va_W) => 0 ≤ r.toInt ∧ r.toInt ≤ 1 ∧ Ty κ tys B w ∧ Sm [] [] κ ws w) (fun w t => cPost (dC, dI) tys w (va_A ws sz) t) (va_A ws sz)) 0 0 (va_A ws sz) := by
  refine Met.ofW (cc := cX2_fits) (maxL := 4) (ret := (some .boolean)) (by decide) rfl ?_
  intro p e s m args below meth c s₁ B0 hml hv
  obtain ⟨rfl, hsz, hP, hK, hD0, hE⟩ := hv
  have hx := B0.exec
  have hb := B0.bytes
  have hr := B0.returns
  have hts0 := atoms_spec (ws := ws_u yX2_fits cX2_fits 4 (some .boolean)) B0.pre
  have hts : ∀ w ∈ gT, w.before _ s = true := fun w h => hts0 w (List.mem_cons_of_mem _ h)
  have hown : s.vm.findClass RX2 = some m.cls := findClass_of_methodNamed B0.named
  have hlocks := B0.notSynchronized
  subst hsz
  have hD := hD0.self (sz := s.heap.size)
  generalize hAe : va_A ws s.heap.size = A at hD ⊢
  have hA : ∀ q : Nat, s.heap.size ≤ q → A q := fun q h => by rw [← hAe]; exact Or.inr h
  have hw : tW (dC, dI) tys κ B A s ws s.heap [] := ⟨hK, hP, hD, va_S.rf, hT⟩
  have hM : Sm [] [] κ ws ws := Sm.rf
  clear hP hK hD hD0 hts0
  have hl := lv_entry ([.ref a0, .int a1, .ref a2]) (n := 4) (Nat.le_of_ble_eq_true rfl)
  rw [lg_entry_eq]
  generalize (lg_sl ([.ref a0, .int a1, .ref a2]) ++ List.replicate (4 - (lg_sl ([.ref a0, .int a1, .ref a2])).length) Slot.unset).toArray = ls at hl ⊢
  have hl : lv_has ls 4 [(0, .ref a0), (1, .int a1), (2, .ref a2)] := hl
  refine t_start (fun QQ hQ => ?_)
  refine lv_iconst (v := 0) hx hb dX2_fits_0 (by decide) ?_
  refine lv_istore_n (lv' := [(3, .int 0), (0, .ref a0), (1, .int a1), (2, .ref a2)]) hx hb dX2_fits_1 rfl hl (by decide) rfl (fun ls hl => ?_)
  have J2 : ∀ (n : Nat) (H : Heap) (locs : List Loc) (ls : Array Slot), (∃ (w2 : va_W) (p2_l3 : Int32), tW (dC, dI) tys κ B A s w2 H locs ∧ Sm [] [] κ ws w2 ∧ 0 ≤ p2_l3.toInt ∧ p2_l3.toInt ≤ 10 ∧ lv_has ls 4 [(0, .ref a0), (1, .int a1), (2, .ref a2), (3, .int p2_l3)] ∧ (10 - p2_l3.toInt).toNat = n) → W p l e (headSpec (ws_u yX2_fits cX2_fits 4 (some .boolean)) ({ frames := 0, cells := 0, slots := 0, locals := 0 })).room s m ([.ref a0, .int a1, .ref a2] : List Value).toArray below meth c H locs 0 0 QQ (F0 m 2 ls []) := by
    refine loopT _ ?_
    intro n_2 H locs ls hI ih_2
    obtain ⟨w2, p2_l3, hw, hM, l_p2_l3, h_p2_l3, hl, hn_2⟩ := hI
    refine lv_iload_n hx hb dX2_fits_2 rfl (lv_at hl 3 rfl) ?_
    refine lv_aload_n hx hb dX2_fits_3 rfl (lv_at hl 2 rfl) ?_
    refine t_geti (ci := 10) (C := RX10) (T := TX10) (N := 8) hx hb hts iX10 hown hw k_a2 rfl rfl rfl 4 (by decide) (hts _ tw_291) (fun _ h9 => h9) dX2_fits_4 rfl (fun v4 l_v4 h_v4 f_a2_X10_4 => ?_)
    have l_v4 : 0 ≤ v4.toInt := l_v4
    have h_v4 : v4.toInt ≤ 10 := h_v4
    refine lv_icmp_ge (tgt := 43) hx hb dX2_fits_7 (by decide) (fun c_7 => ?_) (fun c_7 => ?_)
    · simp only [fa_lt, fa_le, fa_eq] at c_7
      refine lv_iconst (v := 1) hx hb dX2_fits_43 (by decide) ?_
      rw [hQ]
      refine W.widen (k := 0) (n := 0) (Nat.le_refl _) (Nat.le_refl _) ?_
      exact W.zret (v := 1) hx hb hr rfl (fun t ht hW => ⟨⟨1, w2, rfl, ⟨(by decide), (by decide), hw.2.2.2.2, hM⟩, by rw [ht]; exact hw.2.1, va_K.moved hW.alike hw.1, hw.2.2.1⟩, hw.2.2.2.1.F ht⟩) hw.2.2.2.1.2.2 dX2_fits_44
    · simp only [fa_lt, fa_le, fa_eq] at c_7
      refine lv_aload_n hx hb dX2_fits_10 rfl (lv_at hl 0 rfl) ?_
      refine t_getr (k1 := 30) (ci := 2) (C := RX2) (T := TX2) (N := 5) hx hb hts iX2 hown hw k_a0 rfl rfl rfl 2 (by decide) (hts _ tw_406) (fun _ h9 => h9) dX2_fits_11 rfl (fun v11 k_v11 f_a0_X2_2 => ?_)
      refine lv_iload_n hx hb dX2_fits_14 rfl (lv_at hl 1 rfl) ?_
      refine lv_bipush (v := 61) hx hb dX2_fits_15 (by decide) ?_
      refine lv_imul hx hb dX2_fits_17 ?_
      refine lv_topi (fun v17 e_v17 => ?_)
      have e_v17 : v17.toInt = a1.toInt * 61 := ml_i e_v17 rfl li_61 (by omega) (by omega)
      refine lv_aload_n hx hb dX2_fits_18 rfl (lv_at hl 2 rfl) ?_
      refine t_getr (k1 := 50) (ci := 10) (C := RX10) (T := TX10) (N := 8) hx hb hts iX10 hown hw k_a2 rfl rfl rfl 5 (by decide) (hts _ tw_294) (fun _ h9 => h9) dX2_fits_19 rfl (fun v19 k_v19 f_a2_X10_5 => ?_)
      refine lv_iload_n hx hb dX2_fits_22 rfl (lv_at hl 3 rfl) ?_
      refine t_iald hx hb hw k_v19 rfl rfl (by omega) (show p2_l3.toInt < 10 by omega) dX2_fits_23 (fun v23 r_v23 s_v23 q_v23 => ?_)
      have l_v23 : 0 ≤ v23.toInt := r_v23
      have h_v23 : v23.toInt ≤ 60 := s_v23
      refine lv_iadd hx hb dX2_fits_24 ?_
      refine lv_topi (fun v24 e_v24 => ?_)
      have e_v24 : v24.toInt = v17.toInt + v23.toInt := ad_i e_v24 rfl rfl (by omega) (by omega)
      refine t_iald hx hb hw k_v11 rfl rfl (by omega) (show v24.toInt < 427 by omega) dX2_fits_25 (fun v25 r_v25 s_v25 q_v25 => ?_)
      have l_v25 := i32_lo v25
      have h_v25 := i32_hi v25
      refine lv_aload_n hx hb dX2_fits_26 rfl (lv_at hl 2 rfl) ?_
      refine t_getr (k1 := 51) (ci := 10) (C := RX10) (T := TX10) (N := 8) hx hb hts iX10 hown hw k_a2 rfl rfl rfl 6 (by decide) (hts _ tw_297) (fun _ h9 => h9) dX2_fits_27 rfl (fun v27 k_v27 f_a2_X10_6 => ?_)
      refine lv_iload_n hx hb dX2_fits_30 rfl (lv_at hl 3 rfl) ?_
      refine t_iald hx hb hw k_v27 rfl rfl (by omega) (show p2_l3.toInt < 10 by omega) dX2_fits_31 (fun v31 r_v31 s_v31 q_v31 => ?_)
      have l_v31 := i32_lo v31
      have h_v31 := i32_hi v31
      refine lv_icmp_eq (tgt := 37) hx hb dX2_fits_32 (by decide) (fun c_32 => ?_) (fun c_32 => ?_)
      · simp only [fa_lt, fa_le, fa_eq] at c_32
        obtain ⟨v37, e_v37⟩ : ∃ y : Int32, y = p2_l3 + 1 := ⟨_, rfl⟩
        refine lv_iinc (v := v37) (lv' := [(3, .int v37), (0, .ref a0), (1, .int a1), (2, .ref a2)]) hx hb dX2_fits_37 hl (k := 3) rfl e_v37.symm (by decide) rfl (fun ls hl => ?_)
        have e_v37 : v37.toInt = p2_l3.toInt + 1 := ad_i e_v37 rfl li_1 (by omega) (by omega)
        refine lv_goto (tgt := 2) hx hb dX2_fits_40 (by decide) ?_
        exact ih_2 _ _ _ _ (by omega) ⟨w2, v37, hw, hM, (by omega), (by omega), (lv_sub hl [1, 2, 3, 0] rfl), rfl⟩
      · simp only [fa_lt, fa_le, fa_eq] at c_32
        refine lv_iconst (v := 0) hx hb dX2_fits_35 (by decide) ?_
        rw [hQ]
        refine W.widen (k := 0) (n := 0) (Nat.le_refl _) (Nat.le_refl _) ?_
        exact W.zret (v := 0) hx hb hr rfl (fun t ht hW => ⟨⟨0, w2, rfl, ⟨(by decide), (by decide), hw.2.2.2.2, hM⟩, by rw [ht]; exact hw.2.1, va_K.moved hW.alike hw.1, hw.2.2.1⟩, hw.2.2.2.1.F ht⟩) hw.2.2.2.1.2.2 dX2_fits_36
  exact J2 _ _ _ _ ⟨ws, 0, hw, hM, (by decide), (by decide), (lv_sub hl [1, 2, 3, 0] rfl), rfl⟩
set_option maxHeartbeats 4000000 in
set_option maxRecDepth 100000 in
theorem t_X2_tell (l : Launch) (dC : Nat → ClassId) (dI : Nat → Nat → Nat) (tys : List (ClassId × FieldType)) (κ : tK) (B : Nat) (ws : va_W) (hT : Ty κ tys B ws) (a0 : Nat) (k_a0 : κ a0 = some 2) (a1 : Int32) (l_a1 : 0 ≤ a1.toInt) (h_a1 : a1.toInt ≤ 6) (a2 : Nat) (k_a2 : κ a2 = some 0) (a3 : Option Nat) (k_a3 : ∀ q : Nat, a3 = some q → κ q = some 6) (sz : Nat) : Met l yX2_tell (ws_u yX2_tell cX2_tell 5 none) ({ frames := 5, cells := 0, slots := 0, locals := 122 }) (va_Pc [.ref a0, .int a1, .ref a2, va_rf a3] (cPre (dC, dI) tys ws sz)) (va_Qv (fun (w : va_W) => Ty κ tys B w ∧ Sm [(5, 0), (5, 1), (5, 5), (8, 0), (8, 1), (8, 2), (8, 3), (8, 4), (8, 5), (8, 6)] [30, 31, 33, 34, 35, 36, 42, 43, 44, 45, 46, 47, 48] κ ws w) (fun w t => cPost (dC, dI) tys w (va_A ws sz) t) (va_A ws sz)) 0 0 (va_A ws sz) := by
  refine Met.ofW (cc := cX2_tell) (maxL := 5) (ret := none) (by decide) rfl ?_
  intro p e s m args below meth c s₁ B0 hml hv
  obtain ⟨rfl, hsz, hP, hK, hD0, hE⟩ := hv
  have hx := B0.exec
  have hb := B0.bytes
  have hr := B0.returns
  have hts0 := atoms_spec (ws := ws_u yX2_tell cX2_tell 5 none) B0.pre
  have hts : ∀ w ∈ gT, w.before _ s = true := fun w h => hts0 w (List.mem_cons_of_mem _ h)
  have hown : s.vm.findClass RX2 = some m.cls := findClass_of_methodNamed B0.named
  have hlocks := B0.notSynchronized
  subst hsz
  have hD := hD0.self (sz := s.heap.size)
  generalize hAe : va_A ws s.heap.size = A at hD ⊢
  have hA : ∀ q : Nat, s.heap.size ≤ q → A q := fun q h => by rw [← hAe]; exact Or.inr h
  have hw : tW (dC, dI) tys κ B A s ws s.heap [] := ⟨hK, hP, hD, va_S.rf, hT⟩
  have hM : Sm [(5, 0), (5, 1), (5, 5), (8, 0), (8, 1), (8, 2), (8, 3), (8, 4), (8, 5), (8, 6)] [30, 31, 33, 34, 35, 36, 42, 43, 44, 45, 46, 47, 48] κ ws ws := Sm.rf
  clear hP hK hD hD0 hts0
  rcases a3 with _ | a3
  · have hl := lv_entry ([.ref a0, .int a1, .ref a2, .null]) (n := 5) (Nat.le_of_ble_eq_true rfl)
    show W p l e (headSpec (ws_u yX2_tell cX2_tell 5 none) ({ frames := 5, cells := 0, slots := 0, locals := 122 })).room s m ([.ref a0, .int a1, .ref a2, va_rf none] : List Value).toArray below meth c s.heap [] 0 0 _ (entryFrame m ([.ref a0, .int a1, .ref a2, .null] : List Value).toArray 5)
    rw [lg_entry_eq]
    generalize (lg_sl ([.ref a0, .int a1, .ref a2, .null]) ++ List.replicate (5 - (lg_sl ([.ref a0, .int a1, .ref a2, .null])).length) Slot.unset).toArray = ls at hl ⊢
    have hl : lv_has ls 5 [(0, .ref a0), (1, .int a1), (2, .ref a2), (3, .null)] := hl
    refine t_start (fun QQ hQ => ?_)
    refine lv_aload_n hx hb dX2_tell_0 rfl (lv_at hl 0 rfl) ?_
    refine t_getr (k1 := 8) (ci := 2) (C := RX2) (T := TX2) (N := 5) hx hb hts iX2 hown hw k_a0 rfl rfl rfl 1 (by decide) (hts _ tw_405) (fun _ h9 => h9) dX2_tell_1 rfl (fun v1 k_v1 f_a0_X2_1 => ?_)
    refine lv_aload_n hx hb dX2_tell_4 rfl (lv_at hl 2 rfl) ?_
    refine t_callv (va_runV (As := [.ref a2]) (rest := []) ⟨hx, hb, hml, hown, hts⟩ (t_X8_begin l dC dI tys κ B ws hw.2.2.2.2 v1 k_v1 a2 k_a2 s.heap.size) (cwV 1 hts (gUV tw_1031 tw_618 tw_619 tw_8 tw_620) rfl rfl rfl (by decide +kernel) ⟨(Nat.le_of_ble_eq_true rfl), (Nat.le_of_ble_eq_true rfl)⟩) ⟨cPre.blind, t_recv hw (ci := 8) k_v1 rfl rfl, cPre.use hw.2.1 hw.1 hw.2.2.1 hE⟩ rfl rfl hl.1 rfl (lv_room (Nat.le_of_ble_eq_true rfl)) dX2_tell_5 ⟨(Nat.le_of_ble_eq_true rfl), (Nat.le_of_ble_eq_true rfl)⟩) hw hA (fun _ h => h.1) (fun w_1 H locs hp hw => ?_)
    obtain ⟨_, hm⟩ := hp
    have hM := hM.trans hm (by decide) (by decide)
    have f_a0_X2_1 := hm.1 _ _ _ _ f_a0_X2_1 (by decide)
    refine lv_iconst (v := 0) hx hb dX2_tell_8 (by decide) ?_
    refine lv_istore (lv' := [(4, .int 0), (0, .ref a0), (1, .int a1), (2, .ref a2), (3, .null)]) hx hb dX2_tell_9 hl (by decide) rfl (fun ls hl => ?_)
    have J11 : ∀ (n : Nat) (H : Heap) (locs : List Loc) (ls : Array Slot), (∃ (w11 : va_W) (p11_l4 : Int32), tW (dC, dI) tys κ B A s w11 H locs ∧ Sm [(5, 0), (5, 1), (5, 5), (8, 0), (8, 1), (8, 2), (8, 3), (8, 4), (8, 5), (8, 6)] [30, 31, 33, 34, 35, 36, 42, 43, 44, 45, 46, 47, 48] κ ws w11 ∧ 0 ≤ p11_l4.toInt ∧ p11_l4.toInt ≤ 61 ∧ fld w11 a0 2 1 (.ref v1) ∧ lv_has ls 5 [(0, .ref a0), (1, .int a1), (2, .ref a2), (3, .null), (4, .int p11_l4)] ∧ (61 - p11_l4.toInt).toNat = n) → W p l e (headSpec (ws_u yX2_tell cX2_tell 5 none) ({ frames := 5, cells := 0, slots := 0, locals := 122 })).room s m ([.ref a0, .int a1, .ref a2, va_rf none] : List Value).toArray below meth c H locs 0 0 QQ (F0 m 11 ls []) := by
      refine loopT _ ?_
      intro n_11 H locs ls hI ih_11
      obtain ⟨w11, p11_l4, hw, hM, l_p11_l4, h_p11_l4, f_a0_X2_1, hl, hn_11⟩ := hI
      refine lv_iload hx hb dX2_tell_11 (lv_at hl 4 rfl) ?_
      refine lv_bipush (v := 61) hx hb dX2_tell_13 (by decide) ?_
      refine lv_icmp_ge (tgt := 57) hx hb dX2_tell_15 (by decide) (fun c_15 => ?_) (fun c_15 => ?_)
      · simp only [fa_lt, fa_le, fa_eq, li_61] at c_15
        refine lv_aload_n hx hb dX2_tell_57 rfl (lv_at hl 0 rfl) ?_
        refine t_getr (k1 := 31) (ci := 2) (C := RX2) (T := TX2) (N := 5) hx hb hts iX2 hown hw k_a0 rfl rfl rfl 3 (by decide) (hts _ tw_407) (fun _ h9 => h9) dX2_tell_58 rfl (fun v58 k_v58 f_a0_X2_3 => ?_)
        refine lv_iload_n hx hb dX2_tell_61 rfl (lv_at hl 1 rfl) ?_
        refine lv_aload_n hx hb dX2_tell_62 rfl (lv_at hl 2 rfl) ?_
        refine t_aastn (ci := 0) hx hb hw k_v58 rfl rfl k_a2 rfl rfl rfl (by omega) (show a1.toInt < 7 by omega) dX2_tell_63 (fun w_2 H locs y hw u => ?_)
        have hM := hM.up2 u k_v58 (by decide)
        have f_a0_X2_1 := u.1 _ _ _ _ f_a0_X2_1
        have f_a0_X2_3 := u.1 _ _ _ _ f_a0_X2_3
        rw [hQ]
        refine W.widen (k := 0) (n := 0) (Nat.le_refl _) (Nat.le_refl _) ?_
        exact W.vret hx hb hr (fun t ht hW => ⟨⟨w_2, rfl, ⟨hw.2.2.2.2, hM⟩, by rw [ht]; exact hw.2.1, va_K.moved hW.alike hw.1, hw.2.2.1⟩, hw.2.2.2.1.F ht⟩) hw.2.2.2.1.2.2 dX2_tell_64
      · simp only [fa_lt, fa_le, fa_eq, li_61] at c_15
        refine lv_aload_n hx hb dX2_tell_18 rfl (lv_at hl 0 rfl) ?_
        refine t_getr (k1 := 3) (ci := 2) (C := RX2) (T := TX2) (N := 5) hx hb hts iX2 hown hw k_a0 rfl rfl rfl 0 (by decide) (hts _ tw_404) (fun _ h9 => h9) dX2_tell_19 rfl (fun v19 k_v19 f_a0_X2_0 => ?_)
        refine lv_aload_n hx hb dX2_tell_22 rfl (lv_at hl 2 rfl) ?_
        refine lv_aload_n hx hb dX2_tell_23 rfl (lv_at hl 0 rfl) ?_
        refine t_getk (ci := 2) (C := RX2) (T := TX2) (N := 5) hx hb hts iX2 hown hw rfl 1 (by decide) (hts _ tw_405) (fun _ h9 => h9) dX2_tell_24 f_a0_X2_1 ?_
        refine lv_aload_nN hx hb dX2_tell_27 rfl (lv_at hl 3 rfl) ?_
        refine t_calli (va_runV (As := [.ref a2, .ref v1, .null]) (rest := []) ⟨hx, hb, hml, hown, hts⟩ (t_X3_pass l dC dI tys κ B w11 hw.2.2.2.2 v19 k_v19 a2 k_a2 v1 k_v1 none (fun _ h => by cases h) H.size) (cwV 3 hts (gUV tw_1032 tw_761 tw_762 tw_11 tw_763) rfl rfl rfl (by decide +kernel) ⟨(Nat.le_of_ble_eq_true rfl), (Nat.le_of_ble_eq_true rfl)⟩) ⟨cPre.blind, t_recv hw (ci := 3) k_v19 rfl rfl, cPre.use hw.2.1 hw.1 hw.2.2.1 hE⟩ rfl rfl hl.1 rfl (lv_room (Nat.le_of_ble_eq_true rfl)) dX2_tell_28 ⟨(Nat.le_of_ble_eq_true rfl), (Nat.le_of_ble_eq_true rfl)⟩) hw hA (fun _ _ h => h.2.2.1) (fun v28 w_3 H locs hp hw => ?_)
        obtain ⟨l_v28, h_v28, _, hm⟩ := hp
        have hM := hM.trans hm (by decide) (by decide)
        have f_a0_X2_1 := hm.1 _ _ _ _ f_a0_X2_1 (by decide)
        have f_a0_X2_0 := hm.1 _ _ _ _ f_a0_X2_0 (by decide)
        refine lv_pop hx hb dX2_tell_31 rfl ?_
        refine lv_aload_n hx hb dX2_tell_32 rfl (lv_at hl 0 rfl) ?_
        refine t_getr (k1 := 30) (ci := 2) (C := RX2) (T := TX2) (N := 5) hx hb hts iX2 hown hw k_a0 rfl rfl rfl 2 (by decide) (hts _ tw_406) (fun _ h9 => h9) dX2_tell_33 rfl (fun v33 k_v33 f_a0_X2_2 => ?_)
        refine lv_iload_n hx hb dX2_tell_36 rfl (lv_at hl 1 rfl) ?_
        refine lv_bipush (v := 61) hx hb dX2_tell_37 (by decide) ?_
        refine lv_imul hx hb dX2_tell_39 ?_
        refine lv_topi (fun v39 e_v39 => ?_)
        have e_v39 : v39.toInt = a1.toInt * 61 := ml_i e_v39 rfl li_61 (by omega) (by omega)
        refine lv_iload hx hb dX2_tell_40 (lv_at hl 4 rfl) ?_
        refine lv_iadd hx hb dX2_tell_42 ?_
        refine lv_topi (fun v42 e_v42 => ?_)
        have e_v42 : v42.toInt = v39.toInt + p11_l4.toInt := ad_i e_v42 rfl rfl (by omega) (by omega)
        refine lv_aload_n hx hb dX2_tell_43 rfl (lv_at hl 0 rfl) ?_
        refine t_getk (ci := 2) (C := RX2) (T := TX2) (N := 5) hx hb hts iX2 hown hw rfl 1 (by decide) (hts _ tw_405) (fun _ h9 => h9) dX2_tell_44 f_a0_X2_1 ?_
        refine t_geti (ci := 8) (C := RX8) (T := TX8) (N := 13) hx hb hts iX8 hown hw k_v1 rfl rfl rfl 1 (by decide) (hts _ tw_225) (fun _ h9 => h9) dX2_tell_47 rfl (fun v47 l_v47 h_v47 f_v1_X8_1 => ?_)
        have l_v47 : (-1) ≤ v47.toInt := l_v47
        have h_v47 : v47.toInt ≤ 5 := h_v47
        refine t_iast hx hb hw k_v33 rfl rfl (by omega) (show v42.toInt < 427 by omega) (i32_lo _) (i32_hi _) dX2_tell_50 (fun w_4 H locs hw u => ?_)
        have hM := hM.up3 u k_v33 (by decide)
        have f_a0_X2_1 := u.1 _ _ _ _ f_a0_X2_1
        have f_a0_X2_0 := u.1 _ _ _ _ f_a0_X2_0
        have f_a0_X2_2 := u.1 _ _ _ _ f_a0_X2_2
        have f_v1_X8_1 := u.1 _ _ _ _ f_v1_X8_1
        obtain ⟨v51, e_v51⟩ : ∃ y : Int32, y = p11_l4 + 1 := ⟨_, rfl⟩
        refine lv_iinc (v := v51) (lv' := [(4, .int v51), (0, .ref a0), (1, .int a1), (2, .ref a2), (3, .null)]) hx hb dX2_tell_51 hl (k := 4) rfl e_v51.symm (by decide) rfl (fun ls hl => ?_)
        have e_v51 : v51.toInt = p11_l4.toInt + 1 := ad_i e_v51 rfl li_1 (by omega) (by omega)
        refine lv_goto (tgt := 11) hx hb dX2_tell_54 (by decide) ?_
        exact ih_11 _ _ _ _ (by omega) ⟨w_4, v51, hw, hM, (by omega), (by omega), f_a0_X2_1, (lv_sub hl [1, 2, 3, 4, 0] rfl), rfl⟩
    exact J11 _ _ _ _ ⟨w_1, 0, hw, hM, (by decide), (by decide), f_a0_X2_1, (lv_sub hl [1, 2, 3, 4, 0] rfl), rfl⟩
  · have k_a3 := k_a3 _ rfl
    have hl := lv_entry ([.ref a0, .int a1, .ref a2, .ref a3]) (n := 5) (Nat.le_of_ble_eq_true rfl)
    show W p l e (headSpec (ws_u yX2_tell cX2_tell 5 none) ({ frames := 5, cells := 0, slots := 0, locals := 122 })).room s m ([.ref a0, .int a1, .ref a2, va_rf (some a3)] : List Value).toArray below meth c s.heap [] 0 0 _ (entryFrame m ([.ref a0, .int a1, .ref a2, .ref a3] : List Value).toArray 5)
    rw [lg_entry_eq]
    generalize (lg_sl ([.ref a0, .int a1, .ref a2, .ref a3]) ++ List.replicate (5 - (lg_sl ([.ref a0, .int a1, .ref a2, .ref a3])).length) Slot.unset).toArray = ls at hl ⊢
    have hl : lv_has ls 5 [(0, .ref a0), (1, .int a1), (2, .ref a2), (3, .ref a3)] := hl
    refine t_start (fun QQ hQ => ?_)
    refine lv_aload_n hx hb dX2_tell_0 rfl (lv_at hl 0 rfl) ?_
    refine t_getr (k1 := 8) (ci := 2) (C := RX2) (T := TX2) (N := 5) hx hb hts iX2 hown hw k_a0 rfl rfl rfl 1 (by decide) (hts _ tw_405) (fun _ h9 => h9) dX2_tell_1 rfl (fun v1 k_v1 f_a0_X2_1 => ?_)
    refine lv_aload_n hx hb dX2_tell_4 rfl (lv_at hl 2 rfl) ?_
    refine t_callv (va_runV (As := [.ref a2]) (rest := []) ⟨hx, hb, hml, hown, hts⟩ (t_X8_begin l dC dI tys κ B ws hw.2.2.2.2 v1 k_v1 a2 k_a2 s.heap.size) (cwV 1 hts (gUV tw_1031 tw_618 tw_619 tw_8 tw_620) rfl rfl rfl (by decide +kernel) ⟨(Nat.le_of_ble_eq_true rfl), (Nat.le_of_ble_eq_true rfl)⟩) ⟨cPre.blind, t_recv hw (ci := 8) k_v1 rfl rfl, cPre.use hw.2.1 hw.1 hw.2.2.1 hE⟩ rfl rfl hl.1 rfl (lv_room (Nat.le_of_ble_eq_true rfl)) dX2_tell_5 ⟨(Nat.le_of_ble_eq_true rfl), (Nat.le_of_ble_eq_true rfl)⟩) hw hA (fun _ h => h.1) (fun w_5 H locs hp hw => ?_)
    obtain ⟨_, hm⟩ := hp
    have hM := hM.trans hm (by decide) (by decide)
    have f_a0_X2_1 := hm.1 _ _ _ _ f_a0_X2_1 (by decide)
    refine lv_iconst (v := 0) hx hb dX2_tell_8 (by decide) ?_
    refine lv_istore (lv' := [(4, .int 0), (0, .ref a0), (1, .int a1), (2, .ref a2), (3, .ref a3)]) hx hb dX2_tell_9 hl (by decide) rfl (fun ls hl => ?_)
    have J11 : ∀ (n : Nat) (H : Heap) (locs : List Loc) (ls : Array Slot), (∃ (w11 : va_W) (p11_l4 : Int32), tW (dC, dI) tys κ B A s w11 H locs ∧ Sm [(5, 0), (5, 1), (5, 5), (8, 0), (8, 1), (8, 2), (8, 3), (8, 4), (8, 5), (8, 6)] [30, 31, 33, 34, 35, 36, 42, 43, 44, 45, 46, 47, 48] κ ws w11 ∧ 0 ≤ p11_l4.toInt ∧ p11_l4.toInt ≤ 61 ∧ fld w11 a0 2 1 (.ref v1) ∧ lv_has ls 5 [(0, .ref a0), (1, .int a1), (2, .ref a2), (3, .ref a3), (4, .int p11_l4)] ∧ (61 - p11_l4.toInt).toNat = n) → W p l e (headSpec (ws_u yX2_tell cX2_tell 5 none) ({ frames := 5, cells := 0, slots := 0, locals := 122 })).room s m ([.ref a0, .int a1, .ref a2, va_rf (some a3)] : List Value).toArray below meth c H locs 0 0 QQ (F0 m 11 ls []) := by
      refine loopT _ ?_
      intro n_11 H locs ls hI ih_11
      obtain ⟨w11, p11_l4, hw, hM, l_p11_l4, h_p11_l4, f_a0_X2_1, hl, hn_11⟩ := hI
      refine lv_iload hx hb dX2_tell_11 (lv_at hl 4 rfl) ?_
      refine lv_bipush (v := 61) hx hb dX2_tell_13 (by decide) ?_
      refine lv_icmp_ge (tgt := 57) hx hb dX2_tell_15 (by decide) (fun c_15 => ?_) (fun c_15 => ?_)
      · simp only [fa_lt, fa_le, fa_eq, li_61] at c_15
        refine lv_aload_n hx hb dX2_tell_57 rfl (lv_at hl 0 rfl) ?_
        refine t_getr (k1 := 31) (ci := 2) (C := RX2) (T := TX2) (N := 5) hx hb hts iX2 hown hw k_a0 rfl rfl rfl 3 (by decide) (hts _ tw_407) (fun _ h9 => h9) dX2_tell_58 rfl (fun v58 k_v58 f_a0_X2_3 => ?_)
        refine lv_iload_n hx hb dX2_tell_61 rfl (lv_at hl 1 rfl) ?_
        refine lv_aload_n hx hb dX2_tell_62 rfl (lv_at hl 2 rfl) ?_
        refine t_aastn (ci := 0) hx hb hw k_v58 rfl rfl k_a2 rfl rfl rfl (by omega) (show a1.toInt < 7 by omega) dX2_tell_63 (fun w_6 H locs y hw u => ?_)
        have hM := hM.up2 u k_v58 (by decide)
        have f_a0_X2_1 := u.1 _ _ _ _ f_a0_X2_1
        have f_a0_X2_3 := u.1 _ _ _ _ f_a0_X2_3
        rw [hQ]
        refine W.widen (k := 0) (n := 0) (Nat.le_refl _) (Nat.le_refl _) ?_
        exact W.vret hx hb hr (fun t ht hW => ⟨⟨w_6, rfl, ⟨hw.2.2.2.2, hM⟩, by rw [ht]; exact hw.2.1, va_K.moved hW.alike hw.1, hw.2.2.1⟩, hw.2.2.2.1.F ht⟩) hw.2.2.2.1.2.2 dX2_tell_64
      · simp only [fa_lt, fa_le, fa_eq, li_61] at c_15
        refine lv_aload_n hx hb dX2_tell_18 rfl (lv_at hl 0 rfl) ?_
        refine t_getr (k1 := 3) (ci := 2) (C := RX2) (T := TX2) (N := 5) hx hb hts iX2 hown hw k_a0 rfl rfl rfl 0 (by decide) (hts _ tw_404) (fun _ h9 => h9) dX2_tell_19 rfl (fun v19 k_v19 f_a0_X2_0 => ?_)
        refine lv_aload_n hx hb dX2_tell_22 rfl (lv_at hl 2 rfl) ?_
        refine lv_aload_n hx hb dX2_tell_23 rfl (lv_at hl 0 rfl) ?_
        refine t_getk (ci := 2) (C := RX2) (T := TX2) (N := 5) hx hb hts iX2 hown hw rfl 1 (by decide) (hts _ tw_405) (fun _ h9 => h9) dX2_tell_24 f_a0_X2_1 ?_
        refine lv_aload_n hx hb dX2_tell_27 rfl (lv_at hl 3 rfl) ?_
        refine t_calli (va_runV (As := [.ref a2, .ref v1, .ref a3]) (rest := []) ⟨hx, hb, hml, hown, hts⟩ (t_X3_pass l dC dI tys κ B w11 hw.2.2.2.2 v19 k_v19 a2 k_a2 v1 k_v1 (some a3) (fun _ h => by cases h; exact k_a3) H.size) (cwV 3 hts (gUV tw_1032 tw_761 tw_762 tw_11 tw_763) rfl rfl rfl (by decide +kernel) ⟨(Nat.le_of_ble_eq_true rfl), (Nat.le_of_ble_eq_true rfl)⟩) ⟨cPre.blind, t_recv hw (ci := 3) k_v19 rfl rfl, cPre.use hw.2.1 hw.1 hw.2.2.1 hE⟩ rfl rfl hl.1 rfl (lv_room (Nat.le_of_ble_eq_true rfl)) dX2_tell_28 ⟨(Nat.le_of_ble_eq_true rfl), (Nat.le_of_ble_eq_true rfl)⟩) hw hA (fun _ _ h => h.2.2.1) (fun v28 w_7 H locs hp hw => ?_)
        obtain ⟨l_v28, h_v28, _, hm⟩ := hp
        have hM := hM.trans hm (by decide) (by decide)
        have f_a0_X2_1 := hm.1 _ _ _ _ f_a0_X2_1 (by decide)
        have f_a0_X2_0 := hm.1 _ _ _ _ f_a0_X2_0 (by decide)
        refine lv_pop hx hb dX2_tell_31 rfl ?_
        refine lv_aload_n hx hb dX2_tell_32 rfl (lv_at hl 0 rfl) ?_
        refine t_getr (k1 := 30) (ci := 2) (C := RX2) (T := TX2) (N := 5) hx hb hts iX2 hown hw k_a0 rfl rfl rfl 2 (by decide) (hts _ tw_406) (fun _ h9 => h9) dX2_tell_33 rfl (fun v33 k_v33 f_a0_X2_2 => ?_)
        refine lv_iload_n hx hb dX2_tell_36 rfl (lv_at hl 1 rfl) ?_
        refine lv_bipush (v := 61) hx hb dX2_tell_37 (by decide) ?_
        refine lv_imul hx hb dX2_tell_39 ?_
        refine lv_topi (fun v39 e_v39 => ?_)
        have e_v39 : v39.toInt = a1.toInt * 61 := ml_i e_v39 rfl li_61 (by omega) (by omega)
        refine lv_iload hx hb dX2_tell_40 (lv_at hl 4 rfl) ?_
        refine lv_iadd hx hb dX2_tell_42 ?_
        refine lv_topi (fun v42 e_v42 => ?_)
        have e_v42 : v42.toInt = v39.toInt + p11_l4.toInt := ad_i e_v42 rfl rfl (by omega) (by omega)
        refine lv_aload_n hx hb dX2_tell_43 rfl (lv_at hl 0 rfl) ?_
        refine t_getk (ci := 2) (C := RX2) (T := TX2) (N := 5) hx hb hts iX2 hown hw rfl 1 (by decide) (hts _ tw_405) (fun _ h9 => h9) dX2_tell_44 f_a0_X2_1 ?_
        refine t_geti (ci := 8) (C := RX8) (T := TX8) (N := 13) hx hb hts iX8 hown hw k_v1 rfl rfl rfl 1 (by decide) (hts _ tw_225) (fun _ h9 => h9) dX2_tell_47 rfl (fun v47 l_v47 h_v47 f_v1_X8_1 => ?_)
        have l_v47 : (-1) ≤ v47.toInt := l_v47
        have h_v47 : v47.toInt ≤ 5 := h_v47
        refine t_iast hx hb hw k_v33 rfl rfl (by omega) (show v42.toInt < 427 by omega) (i32_lo _) (i32_hi _) dX2_tell_50 (fun w_8 H locs hw u => ?_)
        have hM := hM.up3 u k_v33 (by decide)
        have f_a0_X2_1 := u.1 _ _ _ _ f_a0_X2_1
        have f_a0_X2_0 := u.1 _ _ _ _ f_a0_X2_0
        have f_a0_X2_2 := u.1 _ _ _ _ f_a0_X2_2
        have f_v1_X8_1 := u.1 _ _ _ _ f_v1_X8_1
        obtain ⟨v51, e_v51⟩ : ∃ y : Int32, y = p11_l4 + 1 := ⟨_, rfl⟩
        refine lv_iinc (v := v51) (lv' := [(4, .int v51), (0, .ref a0), (1, .int a1), (2, .ref a2), (3, .ref a3)]) hx hb dX2_tell_51 hl (k := 4) rfl e_v51.symm (by decide) rfl (fun ls hl => ?_)
        have e_v51 : v51.toInt = p11_l4.toInt + 1 := ad_i e_v51 rfl li_1 (by omega) (by omega)
        refine lv_goto (tgt := 11) hx hb dX2_tell_54 (by decide) ?_
        exact ih_11 _ _ _ _ (by omega) ⟨w_8, v51, hw, hM, (by omega), (by omega), f_a0_X2_1, (lv_sub hl [1, 2, 3, 4, 0] rfl), rfl⟩
    exact J11 _ _ _ _ ⟨w_5, 0, hw, hM, (by decide), (by decide), f_a0_X2_1, (lv_sub hl [1, 2, 3, 4, 0] rfl), rfl⟩
set_option maxHeartbeats 4000000 in
set_option maxRecDepth 100000 in
theorem t_X2_study (l : Launch) (dC : Nat → ClassId) (dI : Nat → Nat → Nat) (tys : List (ClassId × FieldType)) (κ : tK) (B : Nat) (ws : va_W) (hT : Ty κ tys B ws) (a0 : Nat) (k_a0 : κ a0 = some 2) (a1 : Nat) (k_a1 : κ a1 = some 10) (a2 : Nat) (k_a2 : κ a2 = some 52) (a3 : Int32) (l_a3 : 0 ≤ a3.toInt) (h_a3 : a3.toInt ≤ 6) (sz : Nat) : Met l yX2_study (ws_u yX2_study cX2_study 5 none) ({ frames := 6, cells := 0, slots := 0, locals := 146 }) (va_Pc [.ref a0, .ref a1, .ref a2, .int a3] (cPre (dC, dI) tys ws sz)) (va_Qv (fun (w : va_W) => Ty κ tys B w ∧ Sm [(2, 4), (5, 0), (5, 1), (5, 5), (8, 0), (8, 1), (8, 2), (8, 3), (8, 4), (8, 5), (8, 6)] [30, 31, 33, 34, 35, 36, 42, 43, 44, 45, 46, 47, 48] κ ws w) (fun w t => cPost (dC, dI) tys w (va_A ws sz) t) (va_A ws sz)) 0 0 (va_A ws sz) := by
  refine Met.ofW (cc := cX2_study) (maxL := 5) (ret := none) (by decide) rfl ?_
  intro p e s m args below meth c s₁ B0 hml hv
  obtain ⟨rfl, hsz, hP, hK, hD0, hE⟩ := hv
  have hx := B0.exec
  have hb := B0.bytes
  have hr := B0.returns
  have hts0 := atoms_spec (ws := ws_u yX2_study cX2_study 5 none) B0.pre
  have hts : ∀ w ∈ gT, w.before _ s = true := fun w h => hts0 w (List.mem_cons_of_mem _ h)
  have hown : s.vm.findClass RX2 = some m.cls := findClass_of_methodNamed B0.named
  have hlocks := B0.notSynchronized
  subst hsz
  have hD := hD0.self (sz := s.heap.size)
  generalize hAe : va_A ws s.heap.size = A at hD ⊢
  have hA : ∀ q : Nat, s.heap.size ≤ q → A q := fun q h => by rw [← hAe]; exact Or.inr h
  have hw : tW (dC, dI) tys κ B A s ws s.heap [] := ⟨hK, hP, hD, va_S.rf, hT⟩
  have hM : Sm [(2, 4), (5, 0), (5, 1), (5, 5), (8, 0), (8, 1), (8, 2), (8, 3), (8, 4), (8, 5), (8, 6)] [30, 31, 33, 34, 35, 36, 42, 43, 44, 45, 46, 47, 48] κ ws ws := Sm.rf
  clear hP hK hD hD0 hts0
  have hl := lv_entry ([.ref a0, .ref a1, .ref a2, .int a3]) (n := 5) (Nat.le_of_ble_eq_true rfl)
  rw [lg_entry_eq]
  generalize (lg_sl ([.ref a0, .ref a1, .ref a2, .int a3]) ++ List.replicate (5 - (lg_sl ([.ref a0, .ref a1, .ref a2, .int a3])).length) Slot.unset).toArray = ls at hl ⊢
  have hl : lv_has ls 5 [(0, .ref a0), (1, .ref a1), (2, .ref a2), (3, .int a3)] := hl
  refine t_start (fun QQ hQ => ?_)
  refine lv_aload_n hx hb dX2_study_0 rfl (lv_at hl 0 rfl) ?_
  refine lv_iconst (v := 0) hx hb dX2_study_1 (by decide) ?_
  refine t_put (ci := 2) (C := RX2) (T := TX2) (N := 5) (v := .int 0) hx hb hts iX2 tyX2 tyX2_ok nmX2 hown hw k_a0 rfl rfl rfl 4 (by decide) (hts _ tw_408) (fun _ h9 => h9) rfl (tyX2_ok 4 (by decide)) rfl rfl (okV.int rfl (by decide) (by decide)) dX2_study_2 (fun w_1 H locs hw u => ?_)
  have hM := hM.up1 u (by decide)
  have f_a0_X2_4 := u.2.2
  refine lv_iconst (v := 0) hx hb dX2_study_5 (by decide) ?_
  refine lv_istore (lv' := [(4, .int 0), (0, .ref a0), (1, .ref a1), (2, .ref a2), (3, .int a3)]) hx hb dX2_study_6 hl (by decide) rfl (fun ls hl => ?_)
  have J8 : ∀ (n : Nat) (H : Heap) (locs : List Loc) (ls : Array Slot), (∃ (w8 : va_W) (p8_l4 : Int32) (p8_m_a0_X2_4 : Int32), tW (dC, dI) tys κ B A s w8 H locs ∧ Sm [(2, 4), (5, 0), (5, 1), (5, 5), (8, 0), (8, 1), (8, 2), (8, 3), (8, 4), (8, 5), (8, 6)] [30, 31, 33, 34, 35, 36, 42, 43, 44, 45, 46, 47, 48] κ ws w8 ∧ 0 ≤ p8_l4.toInt ∧ p8_l4.toInt ≤ 7 ∧ (-2147483648) ≤ p8_m_a0_X2_4.toInt ∧ p8_m_a0_X2_4.toInt ≤ 2147483647 ∧ fld w8 a0 2 4 (.int p8_m_a0_X2_4) ∧ lv_has ls 5 [(0, .ref a0), (1, .ref a1), (2, .ref a2), (3, .int a3), (4, .int p8_l4)] ∧ (7 - p8_l4.toInt).toNat = n) → W p l e (headSpec (ws_u yX2_study cX2_study 5 none) ({ frames := 6, cells := 0, slots := 0, locals := 146 })).room s m ([.ref a0, .ref a1, .ref a2, .int a3] : List Value).toArray below meth c H locs 0 0 QQ (F0 m 8 ls []) := by
    refine loopT _ ?_
    intro n_8 H locs ls hI ih_8
    obtain ⟨w8, p8_l4, p8_m_a0_X2_4, hw, hM, l_p8_l4, h_p8_l4, l_p8_m_a0_X2_4, h_p8_m_a0_X2_4, f_a0_X2_4, hl, hn_8⟩ := hI
    refine lv_iload hx hb dX2_study_8 (lv_at hl 4 rfl) ?_
    refine lv_iload_n hx hb dX2_study_10 rfl (lv_at hl 3 rfl) ?_
    refine lv_icmp_gt (tgt := 89) hx hb dX2_study_11 (by decide) (fun c_11 => ?_) (fun c_11 => ?_)
    · simp only [fa_lt, fa_le, fa_eq] at c_11
      rw [hQ]
      refine W.widen (k := 0) (n := 0) (Nat.le_refl _) (Nat.le_refl _) ?_
      exact W.vret hx hb hr (fun t ht hW => ⟨⟨w8, rfl, ⟨hw.2.2.2.2, hM⟩, by rw [ht]; exact hw.2.1, va_K.moved hW.alike hw.1, hw.2.2.1⟩, hw.2.2.2.1.F ht⟩) hw.2.2.2.1.2.2 dX2_study_89
    · simp only [fa_lt, fa_le, fa_eq] at c_11
      refine lv_iload hx hb dX2_study_14 (lv_at hl 4 rfl) ?_
      refine lv_bipush (v := 7) hx hb dX2_study_16 (by decide) ?_
      refine lv_icmp_ge (tgt := 89) hx hb dX2_study_18 (by decide) (fun c_18 => by exfalso; simp only [fa_lt, fa_le, fa_eq, li_7] at c_18; omega) (fun c_18 => ?_)
      simp only [fa_lt, fa_le, fa_eq, li_7] at c_18
      refine lv_aload_n hx hb dX2_study_21 rfl (lv_at hl 0 rfl) ?_
      refine t_getr (k1 := 31) (ci := 2) (C := RX2) (T := TX2) (N := 5) hx hb hts iX2 hown hw k_a0 rfl rfl rfl 3 (by decide) (hts _ tw_407) (fun _ h9 => h9) dX2_study_22 rfl (fun v22 k_v22 f_a0_X2_3 => ?_)
      refine lv_iload hx hb dX2_study_25 (lv_at hl 4 rfl) ?_
      refine t_aaldn (C := RX0) hx hb hw k_v22 rfl rfl (by omega) (show p8_l4.toInt < 7 by omega) dX2_study_27 (fun v27 k_v27 => ?_)
      have k_v27 : ∀ q : Nat, v27 = some q → κ q = some 0 := k_v27
      refine lv_aload_n hx hb dX2_study_28 rfl (lv_at hl 1 rfl) ?_
      refine t_getr (k1 := 0) (ci := 10) (C := RX10) (T := TX10) (N := 8) hx hb hts iX10 hown hw k_a1 rfl rfl rfl 0 (by decide) (hts _ tw_283) (fun _ h9 => h9) dX2_study_29 rfl (fun v29 k_v29 f_a1_X10_0 => ?_)
      have J60 : ∀ (H : Heap) (locs : List Loc) (ls : Array Slot) (w60 : va_W), tW (dC, dI) tys κ B A s w60 H locs → Sm [(2, 4), (5, 0), (5, 1), (5, 5), (8, 0), (8, 1), (8, 2), (8, 3), (8, 4), (8, 5), (8, 6)] [30, 31, 33, 34, 35, 36, 42, 43, 44, 45, 46, 47, 48] κ ws w60 → fld w60 a0 2 3 (.ref v22) → fld w60 a0 2 4 (.int p8_m_a0_X2_4) → fld w60 a1 10 0 (.ref v29) → lv_has ls 5 [(0, .ref a0), (1, .ref a1), (2, .ref a2), (3, .int a3), (4, .int p8_l4)] → W p l e (headSpec (ws_u yX2_study cX2_study 5 none) ({ frames := 6, cells := 0, slots := 0, locals := 146 })).room s m ([.ref a0, .ref a1, .ref a2, .int a3] : List Value).toArray below meth c H locs 0 0 QQ (F0 m 60 ls []) := by
        intro H locs ls w60 hw hM f_a0_X2_3 f_a0_X2_4 f_a1_X10_0 hl
        refine lv_aload_n hx hb dX2_study_60 rfl (lv_at hl 0 rfl) ?_
        refine lv_iload hx hb dX2_study_61 (lv_at hl 4 rfl) ?_
        refine lv_aload_n hx hb dX2_study_63 rfl (lv_at hl 1 rfl) ?_
        refine t_calli (va_runV (As := [.int p8_l4, .ref a1]) (rest := []) ⟨hx, hb, hml, hown, hts⟩ (t_X2_fits l dC dI tys κ B w60 hw.2.2.2.2 a0 k_a0 p8_l4 (by omega) (by omega) a1 k_a1 H.size) (cwV 2 hts (gUV tw_1033 tw_1035 ts_2_10 tw_12 tw_1036) rfl rfl rfl (by decide +kernel) ⟨(Nat.le_of_ble_eq_true rfl), (Nat.le_of_ble_eq_true rfl)⟩) ⟨cPre.blind, t_recv hw (ci := 2) k_a0 rfl rfl, cPre.use hw.2.1 hw.1 hw.2.2.1 hE⟩ rfl rfl hl.1 rfl (lv_room (Nat.le_of_ble_eq_true rfl)) dX2_study_64 ⟨(Nat.le_of_ble_eq_true rfl), (Nat.le_of_ble_eq_true rfl)⟩) hw hA (fun _ _ h => h.2.2.1) (fun v64 w_2 H locs hp hw => ?_)
        obtain ⟨l_v64, h_v64, _, hm⟩ := hp
        have hM := hM.trans hm (by decide) (by decide)
        have f_a0_X2_3 := hm.1 _ _ _ _ f_a0_X2_3 (by decide)
        have f_a0_X2_4 := hm.1 _ _ _ _ f_a0_X2_4 (by decide)
        have f_a1_X10_0 := hm.1 _ _ _ _ f_a1_X10_0 (by decide)
        have J83 : ∀ (H : Heap) (locs : List Loc) (ls : Array Slot) (w83 : va_W) (p83_m_a0_X2_4 : Int32), tW (dC, dI) tys κ B A s w83 H locs → Sm [(2, 4), (5, 0), (5, 1), (5, 5), (8, 0), (8, 1), (8, 2), (8, 3), (8, 4), (8, 5), (8, 6)] [30, 31, 33, 34, 35, 36, 42, 43, 44, 45, 46, 47, 48] κ ws w83 → (-2147483648) ≤ p83_m_a0_X2_4.toInt → p83_m_a0_X2_4.toInt ≤ 2147483647 → fld w83 a0 2 3 (.ref v22) → fld w83 a0 2 4 (.int p83_m_a0_X2_4) → fld w83 a1 10 0 (.ref v29) → lv_has ls 5 [(0, .ref a0), (1, .ref a1), (2, .ref a2), (3, .int a3), (4, .int p8_l4)] → W p l e (headSpec (ws_u yX2_study cX2_study 5 none) ({ frames := 6, cells := 0, slots := 0, locals := 146 })).room s m ([.ref a0, .ref a1, .ref a2, .int a3] : List Value).toArray below meth c H locs 0 0 QQ (F0 m 83 ls []) := by
          intro H locs ls w83 p83_m_a0_X2_4 hw hM l_p83_m_a0_X2_4 h_p83_m_a0_X2_4 f_a0_X2_3 f_a0_X2_4 f_a1_X10_0 hl
          obtain ⟨v83, e_v83⟩ : ∃ y : Int32, y = p8_l4 + 1 := ⟨_, rfl⟩
          refine lv_iinc (v := v83) (lv' := [(4, .int v83), (0, .ref a0), (1, .ref a1), (2, .ref a2), (3, .int a3)]) hx hb dX2_study_83 hl (k := 4) rfl e_v83.symm (by decide) rfl (fun ls hl => ?_)
          have e_v83 : v83.toInt = p8_l4.toInt + 1 := ad_i e_v83 rfl li_1 (by omega) (by omega)
          refine lv_goto (tgt := 8) hx hb dX2_study_86 (by decide) ?_
          exact ih_8 _ _ _ _ (by omega) ⟨w83, v83, p83_m_a0_X2_4, hw, hM, (by omega), (by omega), (by omega), (by omega), f_a0_X2_4, (lv_sub hl [1, 2, 3, 4, 0] rfl), rfl⟩
        refine lv_if_eq (tgt := 83) hx hb dX2_study_67 (by decide) (fun c_67 => ?_) (fun c_67 => ?_)
        · simp only [fa_lt, fa_le, fa_eq, li_0] at c_67
          exact J83 _ _ _ w_2 p8_m_a0_X2_4 hw hM (by omega) (by omega) f_a0_X2_3 f_a0_X2_4 f_a1_X10_0 (lv_sub hl [0, 1, 2, 3, 4] rfl)
        · simp only [fa_lt, fa_le, fa_eq, li_0] at c_67
          refine lv_aload_n hx hb dX2_study_70 rfl (lv_at hl 0 rfl) ?_
          refine lv_dup hx hb dX2_study_71 rfl ?_
          refine t_getk (ci := 2) (C := RX2) (T := TX2) (N := 5) hx hb hts iX2 hown hw rfl 4 (by decide) (hts _ tw_408) (fun _ h9 => h9) dX2_study_72 f_a0_X2_4 ?_
          refine lv_iconst (v := 1) hx hb dX2_study_75 (by decide) ?_
          refine lv_iload hx hb dX2_study_76 (lv_at hl 4 rfl) ?_
          refine lv_ishl hx hb dX2_study_78 ?_
          refine lv_topi (fun v78 e_v78 => ?_)
          have ⟨l_v78, h_v78⟩ := sh_i e_v78 (by omega) (by omega)
          refine lv_ior hx hb dX2_study_79 ?_
          refine lv_topi (fun v79 e_v79 => ?_)
          have l_v79 := i32_lo v79
          have h_v79 := i32_hi v79
          refine t_put (ci := 2) (C := RX2) (T := TX2) (N := 5) (v := .int v79) hx hb hts iX2 tyX2 tyX2_ok nmX2 hown hw k_a0 rfl rfl rfl 4 (by decide) (hts _ tw_408) (fun _ h9 => h9) rfl (tyX2_ok 4 (by decide)) rfl rfl (okV.int rfl (by omega) (by omega)) dX2_study_80 (fun w_3 H locs hw u => ?_)
          have hM := hM.up1 u (by decide)
          have f_a0_X2_3 := u.1 _ _ _ _ f_a0_X2_3 (Or.inr (Or.inr (by decide)))
          have f_a0_X2_4 := u.2.2
          have f_a1_X10_0 := u.1 _ _ _ _ f_a1_X10_0 (Or.inr (Or.inl (by decide)))
          exact J83 _ _ _ w_3 v79 hw hM (by omega) (by omega) f_a0_X2_3 f_a0_X2_4 f_a1_X10_0 (lv_sub hl [0, 1, 2, 3, 4] rfl)
      refine lv_acmp_eq (rx := v27) (ry := (some v29)) (tgt := 60) hx hb dX2_study_32 (by decide) (fun c_32 => ?_) (fun c_32 => ?_)
      · exact J60 _ _ _ w8 hw hM f_a0_X2_3 f_a0_X2_4 f_a1_X10_0 (lv_sub hl [0, 1, 2, 3, 4] rfl)
      · refine lv_aload_n hx hb dX2_study_35 rfl (lv_at hl 0 rfl) ?_
        refine lv_iload hx hb dX2_study_36 (lv_at hl 4 rfl) ?_
        refine lv_aload_n hx hb dX2_study_38 rfl (lv_at hl 1 rfl) ?_
        refine t_getk (ci := 10) (C := RX10) (T := TX10) (N := 8) hx hb hts iX10 hown hw rfl 0 (by decide) (hts _ tw_283) (fun _ h9 => h9) dX2_study_39 f_a1_X10_0 ?_
        refine lv_iload hx hb dX2_study_42 (lv_at hl 4 rfl) ?_
        have J57 : ∀ (H : Heap) (locs : List Loc) (ls : Array Slot) (w57 : va_W) (p57_s0 : Option Nat), tW (dC, dI) tys κ B A s w57 H locs → Sm [(2, 4), (5, 0), (5, 1), (5, 5), (8, 0), (8, 1), (8, 2), (8, 3), (8, 4), (8, 5), (8, 6)] [30, 31, 33, 34, 35, 36, 42, 43, 44, 45, 46, 47, 48] κ ws w57 → (∀ q : Nat, p57_s0 = some q → κ q = some 6) → fld w57 a0 2 3 (.ref v22) → fld w57 a0 2 4 (.int p8_m_a0_X2_4) → fld w57 a1 10 0 (.ref v29) → lv_has ls 5 [(0, .ref a0), (1, .ref a1), (2, .ref a2), (3, .int a3), (4, .int p8_l4)] → W p l e (headSpec (ws_u yX2_study cX2_study 5 none) ({ frames := 6, cells := 0, slots := 0, locals := 146 })).room s m ([.ref a0, .ref a1, .ref a2, .int a3] : List Value).toArray below meth c H locs 0 0 QQ (F0 m 57 ls [va_rf p57_s0, .ref v29, .int p8_l4, .ref a0]) := by
          intro H locs ls w57 p57_s0 hw hM k_p57_s0 f_a0_X2_3 f_a0_X2_4 f_a1_X10_0 hl
          refine t_callv (va_runV (As := [.int p8_l4, .ref v29, va_rf p57_s0]) (rest := []) ⟨hx, hb, hml, hown, hts⟩ (t_X2_tell l dC dI tys κ B w57 hw.2.2.2.2 a0 k_a0 p8_l4 (by omega) (by omega) v29 k_v29 p57_s0 k_p57_s0 H.size) (cwV 3 hts (gUV tw_1027 tw_1029 ts_2_9 tw_12 tw_1030) rfl rfl rfl (by decide +kernel) ⟨(Nat.le_of_ble_eq_true rfl), (Nat.le_of_ble_eq_true rfl)⟩) ⟨cPre.blind, t_recv hw (ci := 2) k_a0 rfl rfl, cPre.use hw.2.1 hw.1 hw.2.2.1 hE⟩ rfl rfl hl.1 rfl (lv_room (Nat.le_of_ble_eq_true rfl)) dX2_study_57 ⟨(Nat.le_of_ble_eq_true rfl), (Nat.le_of_ble_eq_true rfl)⟩) hw hA (fun _ h => h.1) (fun w_4 H locs hp hw => ?_)
          obtain ⟨_, hm⟩ := hp
          have hM := hM.trans hm (by decide) (by decide)
          have f_a0_X2_3 := hm.1 _ _ _ _ f_a0_X2_3 (by decide)
          have f_a0_X2_4 := hm.1 _ _ _ _ f_a0_X2_4 (by decide)
          have f_a1_X10_0 := hm.1 _ _ _ _ f_a1_X10_0 (by decide)
          exact J60 _ _ _ w_4 hw hM f_a0_X2_3 f_a0_X2_4 f_a1_X10_0 (lv_sub hl [0, 1, 2, 3, 4] rfl)
        refine lv_if_ne (tgt := 51) hx hb dX2_study_44 (by decide) (fun c_44 => ?_) (fun c_44 => ?_)
        · simp only [fa_lt, fa_le, fa_eq, li_0] at c_44
          refine lv_aload_n hx hb dX2_study_51 rfl (lv_at hl 2 rfl) ?_
          refine lv_iload hx hb dX2_study_52 (lv_at hl 4 rfl) ?_
          refine lv_iconst (v := 1) hx hb dX2_study_54 (by decide) ?_
          refine lv_isub hx hb dX2_study_55 ?_
          refine lv_topi (fun v55 e_v55 => ?_)
          have e_v55 : v55.toInt = p8_l4.toInt - 1 := sb_i e_v55 rfl li_1 (by omega) (by omega)
          refine t_aald (C := RX6) hx hb hw k_a2 rfl rfl (by omega) (show v55.toInt < 6 by omega) dX2_study_56 (fun v56 k_v56 => ?_)
          have k_v56 : κ v56 = some 6 := k_v56
          exact J57 _ _ _ w8 (some v56) hw hM (fun _ h => by cases h; exact k_v56) f_a0_X2_3 f_a0_X2_4 f_a1_X10_0 (lv_sub hl [0, 1, 2, 3, 4] rfl)
        · simp only [fa_lt, fa_le, fa_eq, li_0] at c_44
          refine lv_null hx hb dX2_study_47 ?_
          refine lv_goto (tgt := 57) hx hb dX2_study_48 (by decide) ?_
          exact J57 _ _ _ w8 none hw hM (fun _ h => by cases h) f_a0_X2_3 f_a0_X2_4 f_a1_X10_0 (lv_sub hl [0, 1, 2, 3, 4] rfl)
  exact J8 _ _ _ _ ⟨w_1, 0, 0, hw, hM, (by decide), (by decide), (by decide), (by decide), f_a0_X2_4, (lv_sub hl [1, 2, 3, 4, 0] rfl), rfl⟩
set_option maxHeartbeats 4000000 in
set_option maxRecDepth 100000 in
theorem t_X11_look (l : Launch) (dC : Nat → ClassId) (dI : Nat → Nat → Nat) (tys : List (ClassId × FieldType)) (κ : tK) (B : Nat) (ws : va_W) (hT : Ty κ tys B ws) (a0 : Nat) (k_a0 : κ a0 = some 11) (a1 : Int32) (sz : Nat) : Met l yX11_look (ws_u yX11_look cX11_look 3 (some .int)) ({ frames := 7, cells := 0, slots := 0, locals := 170 }) (va_Pc [.ref a0, .int a1] (cPre (dC, dI) tys ws sz)) (va_Qi (fun (r : Int32) (w : va_W) => (-2) ≤ r.toInt ∧ r.toInt ≤ 2147483647 ∧ Ty κ tys B w ∧ Sm [(2, 4), (5, 0), (5, 1), (5, 5), (8, 0), (8, 1), (8, 2), (8, 3), (8, 4), (8, 5), (8, 6)] [30, 31, 33, 34, 35, 36, 42, 43, 44, 45, 46, 47, 48] κ ws w) (fun w t => cPost (dC, dI) tys w (va_A ws sz) t) (va_A ws sz)) 0 0 (va_A ws sz) := by
  refine Met.ofW (cc := cX11_look) (maxL := 3) (ret := (some .int)) (by decide) rfl ?_
  intro p e s m args below meth c s₁ B0 hml hv
  obtain ⟨rfl, hsz, hP, hK, hD0, hE⟩ := hv
  have hx := B0.exec
  have hb := B0.bytes
  have hr := B0.returns
  have hts0 := atoms_spec (ws := ws_u yX11_look cX11_look 3 (some .int)) B0.pre
  have hts : ∀ w ∈ gT, w.before _ s = true := fun w h => hts0 w (List.mem_cons_of_mem _ h)
  have hown : s.vm.findClass RX11 = some m.cls := findClass_of_methodNamed B0.named
  have hlocks := B0.notSynchronized
  subst hsz
  have hD := hD0.self (sz := s.heap.size)
  generalize hAe : va_A ws s.heap.size = A at hD ⊢
  have hA : ∀ q : Nat, s.heap.size ≤ q → A q := fun q h => by rw [← hAe]; exact Or.inr h
  have hw : tW (dC, dI) tys κ B A s ws s.heap [] := ⟨hK, hP, hD, va_S.rf, hT⟩
  have hM : Sm [(2, 4), (5, 0), (5, 1), (5, 5), (8, 0), (8, 1), (8, 2), (8, 3), (8, 4), (8, 5), (8, 6)] [30, 31, 33, 34, 35, 36, 42, 43, 44, 45, 46, 47, 48] κ ws ws := Sm.rf
  clear hP hK hD hD0 hts0
  have l_a1 := i32_lo a1
  have h_a1 := i32_hi a1
  have hl := lv_entry ([.ref a0, .int a1]) (n := 3) (Nat.le_of_ble_eq_true rfl)
  rw [lg_entry_eq]
  generalize (lg_sl ([.ref a0, .int a1]) ++ List.replicate (3 - (lg_sl ([.ref a0, .int a1])).length) Slot.unset).toArray = ls at hl ⊢
  have hl : lv_has ls 3 [(0, .ref a0), (1, .int a1)] := hl
  refine t_start (fun QQ hQ => ?_)
  refine lv_aload_n hx hb dX11_look_0 rfl (lv_at hl 0 rfl) ?_
  refine t_getr (k1 := 10) (ci := 11) (C := RX11) (T := TX11) (N := 12) hx hb hts iX11 hown hw k_a0 rfl rfl rfl 5 (by decide) (hts _ tw_428) (fun _ h9 => h9) dX11_look_1 rfl (fun v1 k_v1 f_a0_X11_5 => ?_)
  refine t_getr (k1 := 0) (ci := 10) (C := RX10) (T := TX10) (N := 8) hx hb hts iX10 hown hw k_v1 rfl rfl rfl 0 (by decide) (hts _ tw_282) (fun _ h9 => h9) dX11_look_4 rfl (fun v4 k_v4 f_v1_X10_0 => ?_)
  refine t_geti (ci := 0) (C := RX0) (T := TX0) (N := 16) hx hb hts iX0 hown hw k_v4 rfl rfl rfl 0 (by decide) (hts _ tw_69) (fun _ h9 => h9) dX11_look_7 rfl (fun v7 l_v7 h_v7 f_v4_X0_0 => ?_)
  have l_v7 : 0 ≤ v7.toInt := l_v7
  have h_v7 : v7.toInt ≤ 1 := h_v7
  refine lv_if_eq (tgt := 22) hx hb dX11_look_10 (by decide) (fun c_10 => ?_) (fun c_10 => ?_)
  · simp only [fa_lt, fa_le, fa_eq, li_0] at c_10
    refine lv_iconst (v := (-1)) hx hb dX11_look_22 (by decide) ?_
    rw [hQ]
    refine W.widen (k := 0) (n := 0) (Nat.le_refl _) (Nat.le_refl _) ?_
    exact W.iret (v := (-1)) hx hb hr (fun t ht hW => ⟨⟨(-1), ws, rfl, ⟨(by decide), (by decide), hw.2.2.2.2, hM⟩, by rw [ht]; exact hw.2.1, va_K.moved hW.alike hw.1, hw.2.2.1⟩, hw.2.2.2.1.F ht⟩) hw.2.2.2.1.2.2 dX11_look_23
  · simp only [fa_lt, fa_le, fa_eq, li_0] at c_10
    refine lv_iload_n hx hb dX11_look_13 rfl (lv_at hl 1 rfl) ?_
    refine lv_if_lt (tgt := 22) hx hb dX11_look_14 (by decide) (fun c_14 => ?_) (fun c_14 => ?_)
    · simp only [fa_lt, fa_le, fa_eq, li_0] at c_14
      refine lv_iconst (v := (-1)) hx hb dX11_look_22 (by decide) ?_
      rw [hQ]
      refine W.widen (k := 0) (n := 0) (Nat.le_refl _) (Nat.le_refl _) ?_
      exact W.iret (v := (-1)) hx hb hr (fun t ht hW => ⟨⟨(-1), ws, rfl, ⟨(by decide), (by decide), hw.2.2.2.2, hM⟩, by rw [ht]; exact hw.2.1, va_K.moved hW.alike hw.1, hw.2.2.1⟩, hw.2.2.2.1.F ht⟩) hw.2.2.2.1.2.2 dX11_look_23
    · simp only [fa_lt, fa_le, fa_eq, li_0] at c_14
      refine lv_iload_n hx hb dX11_look_17 rfl (lv_at hl 1 rfl) ?_
      refine lv_iconst (v := 1) hx hb dX11_look_18 (by decide) ?_
      refine lv_icmp_le (tgt := 24) hx hb dX11_look_19 (by decide) (fun c_19 => ?_) (fun c_19 => ?_)
      · simp only [fa_lt, fa_le, fa_eq, li_1] at c_19
        refine lv_aload_n hx hb dX11_look_24 rfl (lv_at hl 0 rfl) ?_
        refine t_getr (k1 := 2) (ci := 11) (C := RX11) (T := TX11) (N := 12) hx hb hts iX11 hown hw k_a0 rfl rfl rfl 10 (by decide) (hts _ tw_433) (fun _ h9 => h9) dX11_look_25 rfl (fun v25 k_v25 f_a0_X11_10 => ?_)
        refine lv_aload_n hx hb dX11_look_28 rfl (lv_at hl 0 rfl) ?_
        refine t_getk (ci := 11) (C := RX11) (T := TX11) (N := 12) hx hb hts iX11 hown hw rfl 5 (by decide) (hts _ tw_428) (fun _ h9 => h9) dX11_look_29 f_a0_X11_5 ?_
        refine lv_aload_n hx hb dX11_look_32 rfl (lv_at hl 0 rfl) ?_
        refine t_getr (k1 := 52) (ci := 11) (C := RX11) (T := TX11) (N := 12) hx hb hts iX11 hown hw k_a0 rfl rfl rfl 3 (by decide) (hts _ tw_426) (fun _ h9 => h9) dX11_look_33 rfl (fun v33 k_v33 f_a0_X11_3 => ?_)
        refine lv_aload_n hx hb dX11_look_36 rfl (lv_at hl 0 rfl) ?_
        refine t_geti (ci := 11) (C := RX11) (T := TX11) (N := 12) hx hb hts iX11 hown hw k_a0 rfl rfl rfl 4 (by decide) (hts _ tw_427) (fun _ h9 => h9) dX11_look_37 rfl (fun v37 l_v37 h_v37 f_a0_X11_4 => ?_)
        have l_v37 : 0 ≤ v37.toInt := l_v37
        have h_v37 : v37.toInt ≤ 6 := h_v37
        refine t_callv (va_runV (As := [.ref v1, .ref v33, .int v37]) (rest := []) ⟨hx, hb, hml, hown, hts⟩ (t_X2_study l dC dI tys κ B ws hw.2.2.2.2 v25 k_v25 v1 k_v1 v33 k_v33 v37 (by omega) (by omega) s.heap.size) (cwV 3 hts (gUV tw_1023 tw_1024 tw_1025 tw_12 tw_1026) rfl rfl rfl (by decide +kernel) ⟨(Nat.le_of_ble_eq_true rfl), (Nat.le_of_ble_eq_true rfl)⟩) ⟨cPre.blind, t_recv hw (ci := 2) k_v25 rfl rfl, cPre.use hw.2.1 hw.1 hw.2.2.1 hE⟩ rfl rfl hl.1 rfl (lv_room (Nat.le_of_ble_eq_true rfl)) dX11_look_40 ⟨(Nat.le_of_ble_eq_true rfl), (Nat.le_of_ble_eq_true rfl)⟩) hw hA (fun _ h => h.1) (fun w_1 H locs hp hw => ?_)
        obtain ⟨_, hm⟩ := hp
        have hM := hM.trans hm (by decide) (by decide)
        have f_a0_X11_5 := hm.1 _ _ _ _ f_a0_X11_5 (by decide)
        have f_v1_X10_0 := hm.1 _ _ _ _ f_v1_X10_0 (by decide)
        have f_v4_X0_0 := hm.1 _ _ _ _ f_v4_X0_0 (by decide)
        have f_a0_X11_10 := hm.1 _ _ _ _ f_a0_X11_10 (by decide)
        have f_a0_X11_3 := hm.1 _ _ _ _ f_a0_X11_3 (by decide)
        have f_a0_X11_4 := hm.1 _ _ _ _ f_a0_X11_4 (by decide)
        refine lv_aload_n hx hb dX11_look_43 rfl (lv_at hl 0 rfl) ?_
        refine t_getk (ci := 11) (C := RX11) (T := TX11) (N := 12) hx hb hts iX11 hown hw rfl 10 (by decide) (hts _ tw_433) (fun _ h9 => h9) dX11_look_44 f_a0_X11_10 ?_
        refine t_geti (ci := 2) (C := RX2) (T := TX2) (N := 5) hx hb hts iX2 hown hw k_v25 rfl rfl rfl 4 (by decide) (hts _ tw_409) (fun _ h9 => h9) dX11_look_47 rfl (fun v47 l_v47 h_v47 f_v25_X2_4 => ?_)
        have l_v47 : (-2147483648) ≤ v47.toInt := l_v47
        have h_v47 : v47.toInt ≤ 2147483647 := h_v47
        refine lv_if_ne (tgt := 56) hx hb dX11_look_50 (by decide) (fun c_50 => ?_) (fun c_50 => ?_)
        · simp only [fa_lt, fa_le, fa_eq, li_0] at c_50
          refine lv_aload_n hx hb dX11_look_56 rfl (lv_at hl 0 rfl) ?_
          refine t_getk (ci := 11) (C := RX11) (T := TX11) (N := 12) hx hb hts iX11 hown hw rfl 10 (by decide) (hts _ tw_433) (fun _ h9 => h9) dX11_look_57 f_a0_X11_10 ?_
          refine t_calli (va_runV (As := []) (rest := []) ⟨hx, hb, hml, hown, hts⟩ (t_X2_bestDay l dC dI tys κ B w_1 hw.2.2.2.2 v25 k_v25 H.size) (cwV 0 hts (gUV tw_1049 tw_1050 tw_1051 tw_12 tw_1052) rfl rfl rfl (by decide +kernel) ⟨(Nat.le_of_ble_eq_true rfl), (Nat.le_of_ble_eq_true rfl)⟩) ⟨cPre.blind, t_recv hw (ci := 2) k_v25 rfl rfl, cPre.use hw.2.1 hw.1 hw.2.2.1 hE⟩ rfl rfl hl.1 rfl (lv_room (Nat.le_of_ble_eq_true rfl)) dX11_look_60 ⟨(Nat.le_of_ble_eq_true rfl), (Nat.le_of_ble_eq_true rfl)⟩) hw hA (fun _ _ h => h.2.2.1) (fun v60 w_2 H locs hp hw => ?_)
          obtain ⟨l_v60, h_v60, _, hm⟩ := hp
          have hM := hM.trans hm (by decide) (by decide)
          have f_a0_X11_5 := hm.1 _ _ _ _ f_a0_X11_5 (by decide)
          have f_v1_X10_0 := hm.1 _ _ _ _ f_v1_X10_0 (by decide)
          have f_v4_X0_0 := hm.1 _ _ _ _ f_v4_X0_0 (by decide)
          have f_a0_X11_10 := hm.1 _ _ _ _ f_a0_X11_10 (by decide)
          have f_a0_X11_3 := hm.1 _ _ _ _ f_a0_X11_3 (by decide)
          have f_a0_X11_4 := hm.1 _ _ _ _ f_a0_X11_4 (by decide)
          have f_v25_X2_4 := hm.1 _ _ _ _ f_v25_X2_4 (by decide)
          refine lv_istore_n (lv' := [(2, .int v60), (0, .ref a0), (1, .int a1)]) hx hb dX11_look_63 rfl hl (by decide) rfl (fun ls hl => ?_)
          refine lv_iload_n hx hb dX11_look_64 rfl (lv_at hl 2 rfl) ?_
          refine lv_if_ne (tgt := 72) hx hb dX11_look_65 (by decide) (fun c_65 => ?_) (fun c_65 => ?_)
          · simp only [fa_lt, fa_le, fa_eq, li_0] at c_65
            refine lv_aload_n hx hb dX11_look_72 rfl (lv_at hl 1 rfl) ?_
            refine t_getk (ci := 11) (C := RX11) (T := TX11) (N := 12) hx hb hts iX11 hown hw rfl 10 (by decide) (hts _ tw_433) (fun _ h9 => h9) dX11_look_73 f_a0_X11_10 ?_
            refine lv_iload_n hx hb dX11_look_76 rfl (lv_at hl 0 rfl) ?_
            refine t_calli (va_runV (As := [.int v60]) (rest := []) ⟨hx, hb, hml, hown, hts⟩ (t_X2_mostAlike l dC dI tys κ B w_2 hw.2.2.2.2 v25 k_v25 v60 (by omega) (by omega) H.size) (cwV 1 hts (gUV tw_1062 tw_1054 tw_1055 tw_12 tw_1056) rfl rfl rfl (by decide +kernel) ⟨(Nat.le_of_ble_eq_true rfl), (Nat.le_of_ble_eq_true rfl)⟩) ⟨cPre.blind, t_recv hw (ci := 2) k_v25 rfl rfl, cPre.use hw.2.1 hw.1 hw.2.2.1 hE⟩ rfl rfl hl.1 rfl (lv_room (Nat.le_of_ble_eq_true rfl)) dX11_look_77 ⟨(Nat.le_of_ble_eq_true rfl), (Nat.le_of_ble_eq_true rfl)⟩) hw hA (fun _ _ h => h.2.2.1) (fun v77 w_3 H locs hp hw => ?_)
            obtain ⟨l_v77, h_v77, _, hm⟩ := hp
            have hM := hM.trans hm (by decide) (by decide)
            have f_a0_X11_5 := hm.1 _ _ _ _ f_a0_X11_5 (by decide)
            have f_v1_X10_0 := hm.1 _ _ _ _ f_v1_X10_0 (by decide)
            have f_v4_X0_0 := hm.1 _ _ _ _ f_v4_X0_0 (by decide)
            have f_a0_X11_10 := hm.1 _ _ _ _ f_a0_X11_10 (by decide)
            have f_a0_X11_3 := hm.1 _ _ _ _ f_a0_X11_3 (by decide)
            have f_a0_X11_4 := hm.1 _ _ _ _ f_a0_X11_4 (by decide)
            have f_v25_X2_4 := hm.1 _ _ _ _ f_v25_X2_4 (by decide)
            rw [hQ]
            refine W.widen (k := 0) (n := 0) (Nat.le_refl _) (Nat.le_refl _) ?_
            exact W.iret (v := v77) hx hb hr (fun t ht hW => ⟨⟨v77, w_3, rfl, ⟨(by omega), (by omega), hw.2.2.2.2, hM⟩, by rw [ht]; exact hw.2.1, va_K.moved hW.alike hw.1, hw.2.2.1⟩, hw.2.2.2.1.F ht⟩) hw.2.2.2.1.2.2 dX11_look_80
          · simp only [fa_lt, fa_le, fa_eq, li_0] at c_65
            refine lv_iload_n hx hb dX11_look_68 rfl (lv_at hl 0 rfl) ?_
            refine lv_goto (tgt := 80) hx hb dX11_look_69 (by decide) ?_
            rw [hQ]
            refine W.widen (k := 0) (n := 0) (Nat.le_refl _) (Nat.le_refl _) ?_
            exact W.iret (v := v60) hx hb hr (fun t ht hW => ⟨⟨v60, w_2, rfl, ⟨(by omega), (by omega), hw.2.2.2.2, hM⟩, by rw [ht]; exact hw.2.1, va_K.moved hW.alike hw.1, hw.2.2.1⟩, hw.2.2.2.1.F ht⟩) hw.2.2.2.1.2.2 dX11_look_80
        · simp only [fa_lt, fa_le, fa_eq, li_0] at c_50
          refine lv_bipush (v := (-2)) hx hb dX11_look_53 (by decide) ?_
          rw [hQ]
          refine W.widen (k := 0) (n := 0) (Nat.le_refl _) (Nat.le_refl _) ?_
          exact W.iret (v := (-2)) hx hb hr (fun t ht hW => ⟨⟨(-2), w_1, rfl, ⟨(by decide), (by decide), hw.2.2.2.2, hM⟩, by rw [ht]; exact hw.2.1, va_K.moved hW.alike hw.1, hw.2.2.1⟩, hw.2.2.2.1.F ht⟩) hw.2.2.2.1.2.2 dX11_look_55
      · simp only [fa_lt, fa_le, fa_eq, li_1] at c_19
        refine lv_iconst (v := (-1)) hx hb dX11_look_22 (by decide) ?_
        rw [hQ]
        refine W.widen (k := 0) (n := 0) (Nat.le_refl _) (Nat.le_refl _) ?_
        exact W.iret (v := (-1)) hx hb hr (fun t ht hW => ⟨⟨(-1), ws, rfl, ⟨(by decide), (by decide), hw.2.2.2.2, hM⟩, by rw [ht]; exact hw.2.1, va_K.moved hW.alike hw.1, hw.2.2.1⟩, hw.2.2.2.1.F ht⟩) hw.2.2.2.1.2.2 dX11_look_23
set_option maxHeartbeats 4000000 in
set_option maxRecDepth 100000 in
theorem t_X5_countWhoWantMore (l : Launch) (dC : Nat → ClassId) (dI : Nat → Nat → Nat) (tys : List (ClassId × FieldType)) (κ : tK) (B : Nat) (ws : va_W) (hT : Ty κ tys B ws) (a0 : Nat) (k_a0 : κ a0 = some 5) (a1 : Int32) (l_a1 : 0 ≤ a1.toInt) (h_a1 : a1.toInt ≤ 5) (a2 : Int32) (l_a2 : 0 ≤ a2.toInt) (h_a2 : a2.toInt ≤ 5) (sz : Nat) : Met l yX5_countWhoWantMore (ws_u yX5_countWhoWantMore cX5_countWhoWantMore 5 (some .int)) ({ frames := 1, cells := 0, slots := 0, locals := 23 }) (va_Pc [.ref a0, .int a1, .int a2] (cPre (dC, dI) tys ws sz)) (va_Qi (fun (r : Int32) (w : va_W) => Ty κ tys B w ∧ Sm [] [] κ ws w) (fun w t => cPost (dC, dI) tys w (va_A ws sz) t) (va_A ws sz)) 0 0 (va_A ws sz) := by
  refine Met.ofW (cc := cX5_countWhoWantMore) (maxL := 5) (ret := (some .int)) (by decide) rfl ?_
  intro p e s m args below meth c s₁ B0 hml hv
  obtain ⟨rfl, hsz, hP, hK, hD0, hE⟩ := hv
  have hx := B0.exec
  have hb := B0.bytes
  have hr := B0.returns
  have hts0 := atoms_spec (ws := ws_u yX5_countWhoWantMore cX5_countWhoWantMore 5 (some .int)) B0.pre
  have hts : ∀ w ∈ gT, w.before _ s = true := fun w h => hts0 w (List.mem_cons_of_mem _ h)
  have hown : s.vm.findClass RX5 = some m.cls := findClass_of_methodNamed B0.named
  have hlocks := B0.notSynchronized
  subst hsz
  have hD := hD0.self (sz := s.heap.size)
  generalize hAe : va_A ws s.heap.size = A at hD ⊢
  have hA : ∀ q : Nat, s.heap.size ≤ q → A q := fun q h => by rw [← hAe]; exact Or.inr h
  have hw : tW (dC, dI) tys κ B A s ws s.heap [] := ⟨hK, hP, hD, va_S.rf, hT⟩
  have hM : Sm [] [] κ ws ws := Sm.rf
  clear hP hK hD hD0 hts0
  have hl := lv_entry ([.ref a0, .int a1, .int a2]) (n := 5) (Nat.le_of_ble_eq_true rfl)
  rw [lg_entry_eq]
  generalize (lg_sl ([.ref a0, .int a1, .int a2]) ++ List.replicate (5 - (lg_sl ([.ref a0, .int a1, .int a2])).length) Slot.unset).toArray = ls at hl ⊢
  have hl : lv_has ls 5 [(0, .ref a0), (1, .int a1), (2, .int a2)] := hl
  refine t_start (fun QQ hQ => ?_)
  refine lv_iconst (v := 0) hx hb dX5_countWhoWantMore_0 (by decide) ?_
  refine lv_istore_n (lv' := [(3, .int 0), (0, .ref a0), (1, .int a1), (2, .int a2)]) hx hb dX5_countWhoWantMore_1 rfl hl (by decide) rfl (fun ls hl => ?_)
  refine lv_iconst (v := 0) hx hb dX5_countWhoWantMore_2 (by decide) ?_
  refine lv_istore (lv' := [(4, .int 0), (3, .int 0), (0, .ref a0), (1, .int a1), (2, .int a2)]) hx hb dX5_countWhoWantMore_3 hl (by decide) rfl (fun ls hl => ?_)
  have J5 : ∀ (n : Nat) (H : Heap) (locs : List Loc) (ls : Array Slot), (∃ (w5 : va_W) (p5_l3 : Int32) (p5_l4 : Int32), tW (dC, dI) tys κ B A s w5 H locs ∧ Sm [] [] κ ws w5 ∧ (-2147483648) ≤ p5_l3.toInt ∧ p5_l3.toInt ≤ 2147483647 ∧ 0 ≤ p5_l4.toInt ∧ p5_l4.toInt ≤ 6 ∧ lv_has ls 5 [(0, .ref a0), (1, .int a1), (2, .int a2), (3, .int p5_l3), (4, .int p5_l4)] ∧ (6 - p5_l4.toInt).toNat = n) → W p l e (headSpec (ws_u yX5_countWhoWantMore cX5_countWhoWantMore 5 (some .int)) ({ frames := 1, cells := 0, slots := 0, locals := 23 })).room s m ([.ref a0, .int a1, .int a2] : List Value).toArray below meth c H locs 0 0 QQ (F0 m 5 ls []) := by
    refine loopT _ ?_
    intro n_5 H locs ls hI ih_5
    obtain ⟨w5, p5_l3, p5_l4, hw, hM, l_p5_l3, h_p5_l3, l_p5_l4, h_p5_l4, hl, hn_5⟩ := hI
    refine lv_iload hx hb dX5_countWhoWantMore_5 (lv_at hl 4 rfl) ?_
    refine lv_aload_n hx hb dX5_countWhoWantMore_7 rfl (lv_at hl 0 rfl) ?_
    refine t_geti (ci := 5) (C := RX5) (T := TX5) (N := 8) hx hb hts iX5 hown hw k_a0 rfl rfl rfl 0 (by decide) (hts _ tw_344) (fun _ h9 => h9) dX5_countWhoWantMore_8 rfl (fun v8 l_v8 h_v8 f_a0_X5_0 => ?_)
    have l_v8 : 0 ≤ v8.toInt := l_v8
    have h_v8 : v8.toInt ≤ 6 := h_v8
    refine lv_icmp_ge (tgt := 34) hx hb dX5_countWhoWantMore_11 (by decide) (fun c_11 => ?_) (fun c_11 => ?_)
    · simp only [fa_lt, fa_le, fa_eq] at c_11
      refine lv_iload_n hx hb dX5_countWhoWantMore_34 rfl (lv_at hl 3 rfl) ?_
      rw [hQ]
      refine W.widen (k := 0) (n := 0) (Nat.le_refl _) (Nat.le_refl _) ?_
      exact W.iret (v := p5_l3) hx hb hr (fun t ht hW => ⟨⟨p5_l3, w5, rfl, ⟨hw.2.2.2.2, hM⟩, by rw [ht]; exact hw.2.1, va_K.moved hW.alike hw.1, hw.2.2.1⟩, hw.2.2.2.1.F ht⟩) hw.2.2.2.1.2.2 dX5_countWhoWantMore_35
    · simp only [fa_lt, fa_le, fa_eq] at c_11
      refine lv_aload_n hx hb dX5_countWhoWantMore_14 rfl (lv_at hl 0 rfl) ?_
      refine lv_iload hx hb dX5_countWhoWantMore_15 (lv_at hl 4 rfl) ?_
      refine lv_iload_n hx hb dX5_countWhoWantMore_17 rfl (lv_at hl 1 rfl) ?_
      refine lv_iload_n hx hb dX5_countWhoWantMore_18 rfl (lv_at hl 2 rfl) ?_
      refine t_calli (va_runV (As := [.int p5_l4, .int a1, .int a2]) (rest := []) ⟨hx, hb, hml, hown, hts⟩ (t_X5_wantsMore l dC dI tys κ B w5 hw.2.2.2.2 a0 k_a0 p5_l4 (by omega) (by omega) a1 (by omega) (by omega) a2 (by omega) (by omega) H.size) (cwV 3 hts (gUV tw_800 tw_802 ts_1_7 tw_10 tw_803) rfl rfl rfl (by decide +kernel) ⟨(Nat.le_of_ble_eq_true rfl), (Nat.le_of_ble_eq_true rfl)⟩) ⟨cPre.blind, t_recv hw (ci := 5) k_a0 rfl rfl, cPre.use hw.2.1 hw.1 hw.2.2.1 hE⟩ rfl rfl hl.1 rfl (lv_room (Nat.le_of_ble_eq_true rfl)) dX5_countWhoWantMore_19 ⟨(Nat.le_of_ble_eq_true rfl), (Nat.le_of_ble_eq_true rfl)⟩) hw hA (fun _ _ h => h.2.2.1) (fun v19 w_1 H locs hp hw => ?_)
      obtain ⟨l_v19, h_v19, _, hm⟩ := hp
      have hM := hM.trans hm (by decide) (by decide)
      have f_a0_X5_0 := hm.1 _ _ _ _ f_a0_X5_0 (by decide)
      have J28 : ∀ (H : Heap) (locs : List Loc) (ls : Array Slot) (w28 : va_W) (p28_l3 : Int32), tW (dC, dI) tys κ B A s w28 H locs → Sm [] [] κ ws w28 → (-2147483648) ≤ p28_l3.toInt → p28_l3.toInt ≤ 2147483647 → fld w28 a0 5 0 (.int v8) → lv_has ls 5 [(0, .ref a0), (1, .int a1), (2, .int a2), (3, .int p28_l3), (4, .int p5_l4)] → W p l e (headSpec (ws_u yX5_countWhoWantMore cX5_countWhoWantMore 5 (some .int)) ({ frames := 1, cells := 0, slots := 0, locals := 23 })).room s m ([.ref a0, .int a1, .int a2] : List Value).toArray below meth c H locs 0 0 QQ (F0 m 28 ls []) := by
        intro H locs ls w28 p28_l3 hw hM l_p28_l3 h_p28_l3 f_a0_X5_0 hl
        obtain ⟨v28, e_v28⟩ : ∃ y : Int32, y = p5_l4 + 1 := ⟨_, rfl⟩
        refine lv_iinc (v := v28) (lv' := [(4, .int v28), (0, .ref a0), (1, .int a1), (2, .int a2), (3, .int p28_l3)]) hx hb dX5_countWhoWantMore_28 hl (k := 4) rfl e_v28.symm (by decide) rfl (fun ls hl => ?_)
        have e_v28 : v28.toInt = p5_l4.toInt + 1 := ad_i e_v28 rfl li_1 (by omega) (by omega)
        refine lv_goto (tgt := 5) hx hb dX5_countWhoWantMore_31 (by decide) ?_
        exact ih_5 _ _ _ _ (by omega) ⟨w28, p28_l3, v28, hw, hM, (by omega), (by omega), (by omega), (by omega), (lv_sub hl [1, 2, 3, 4, 0] rfl), rfl⟩
      refine lv_if_eq (tgt := 28) hx hb dX5_countWhoWantMore_22 (by decide) (fun c_22 => ?_) (fun c_22 => ?_)
      · simp only [fa_lt, fa_le, fa_eq, li_0] at c_22
        exact J28 _ _ _ w_1 p5_l3 hw hM (by omega) (by omega) f_a0_X5_0 (lv_sub hl [0, 1, 2, 3, 4] rfl)
      · simp only [fa_lt, fa_le, fa_eq, li_0] at c_22
        obtain ⟨v25, e_v25⟩ : ∃ y : Int32, y = p5_l3 + 1 := ⟨_, rfl⟩
        refine lv_iinc (v := v25) (lv' := [(3, .int v25), (0, .ref a0), (1, .int a1), (2, .int a2), (4, .int p5_l4)]) hx hb dX5_countWhoWantMore_25 hl (k := 3) rfl e_v25.symm (by decide) rfl (fun ls hl => ?_)
        have l_v25 := i32_lo v25
        have h_v25 := i32_hi v25
        exact J28 _ _ _ w_1 v25 hw hM (by omega) (by omega) f_a0_X5_0 (lv_sub hl [1, 2, 3, 0, 4] rfl)
  exact J5 _ _ _ _ ⟨ws, 0, 0, hw, hM, (by decide), (by decide), (by decide), (by decide), (lv_sub hl [2, 3, 4, 1, 0] rfl), rfl⟩
set_option maxHeartbeats 4000000 in
set_option maxRecDepth 100000 in
theorem t_X5_isAheadOfEach (l : Launch) (dC : Nat → ClassId) (dI : Nat → Nat → Nat) (tys : List (ClassId × FieldType)) (κ : tK) (B : Nat) (ws : va_W) (hT : Ty κ tys B ws) (a0 : Nat) (k_a0 : κ a0 = some 5) (a1 : Int32) (l_a1 : 0 ≤ a1.toInt) (h_a1 : a1.toInt ≤ 5) (sz : Nat) : Met l yX5_isAheadOfEach (ws_u yX5_isAheadOfEach cX5_isAheadOfEach 3 (some .boolean)) ({ frames := 2, cells := 0, slots := 0, locals := 47 }) (va_Pc [.ref a0, .int a1] (cPre (dC, dI) tys ws sz)) (va_Qi (fun (r : Int32) (w : va_W) => 0 ≤ r.toInt ∧ r.toInt ≤ 1 ∧ Ty κ tys B w ∧ Sm [] [] κ ws w) (fun w t => cPost (dC, dI) tys w (va_A ws sz) t) (va_A ws sz)) 0 0 (va_A ws sz) := by
  refine Met.ofW (cc := cX5_isAheadOfEach) (maxL := 3) (ret := (some .boolean)) (by decide) rfl ?_
  intro p e s m args below meth c s₁ B0 hml hv
  obtain ⟨rfl, hsz, hP, hK, hD0, hE⟩ := hv
  have hx := B0.exec
  have hb := B0.bytes
  have hr := B0.returns
  have hts0 := atoms_spec (ws := ws_u yX5_isAheadOfEach cX5_isAheadOfEach 3 (some .boolean)) B0.pre
  have hts : ∀ w ∈ gT, w.before _ s = true := fun w h => hts0 w (List.mem_cons_of_mem _ h)
  have hown : s.vm.findClass RX5 = some m.cls := findClass_of_methodNamed B0.named
  have hlocks := B0.notSynchronized
  subst hsz
  have hD := hD0.self (sz := s.heap.size)
  generalize hAe : va_A ws s.heap.size = A at hD ⊢
  have hA : ∀ q : Nat, s.heap.size ≤ q → A q := fun q h => by rw [← hAe]; exact Or.inr h
  have hw : tW (dC, dI) tys κ B A s ws s.heap [] := ⟨hK, hP, hD, va_S.rf, hT⟩
  have hM : Sm [] [] κ ws ws := Sm.rf
  clear hP hK hD hD0 hts0
  have hl := lv_entry ([.ref a0, .int a1]) (n := 3) (Nat.le_of_ble_eq_true rfl)
  rw [lg_entry_eq]
  generalize (lg_sl ([.ref a0, .int a1]) ++ List.replicate (3 - (lg_sl ([.ref a0, .int a1])).length) Slot.unset).toArray = ls at hl ⊢
  have hl : lv_has ls 3 [(0, .ref a0), (1, .int a1)] := hl
  refine t_start (fun QQ hQ => ?_)
  refine lv_iconst (v := 0) hx hb dX5_isAheadOfEach_0 (by decide) ?_
  refine lv_istore_n (lv' := [(2, .int 0), (0, .ref a0), (1, .int a1)]) hx hb dX5_isAheadOfEach_1 rfl hl (by decide) rfl (fun ls hl => ?_)
  have J2 : ∀ (n : Nat) (H : Heap) (locs : List Loc) (ls : Array Slot), (∃ (w2 : va_W) (p2_l2 : Int32), tW (dC, dI) tys κ B A s w2 H locs ∧ Sm [] [] κ ws w2 ∧ 0 ≤ p2_l2.toInt ∧ p2_l2.toInt ≤ 6 ∧ lv_has ls 3 [(0, .ref a0), (1, .int a1), (2, .int p2_l2)] ∧ (6 - p2_l2.toInt).toNat = n) → W p l e (headSpec (ws_u yX5_isAheadOfEach cX5_isAheadOfEach 3 (some .boolean)) ({ frames := 2, cells := 0, slots := 0, locals := 47 })).room s m ([.ref a0, .int a1] : List Value).toArray below meth c H locs 0 0 QQ (F0 m 2 ls []) := by
    refine loopT _ ?_
    intro n_2 H locs ls hI ih_2
    obtain ⟨w2, p2_l2, hw, hM, l_p2_l2, h_p2_l2, hl, hn_2⟩ := hI
    refine lv_iload_n hx hb dX5_isAheadOfEach_2 rfl (lv_at hl 2 rfl) ?_
    refine lv_aload_n hx hb dX5_isAheadOfEach_3 rfl (lv_at hl 0 rfl) ?_
    refine t_geti (ci := 5) (C := RX5) (T := TX5) (N := 8) hx hb hts iX5 hown hw k_a0 rfl rfl rfl 0 (by decide) (hts _ tw_344) (fun _ h9 => h9) dX5_isAheadOfEach_4 rfl (fun v4 l_v4 h_v4 f_a0_X5_0 => ?_)
    have l_v4 : 0 ≤ v4.toInt := l_v4
    have h_v4 : v4.toInt ≤ 6 := h_v4
    refine lv_icmp_ge (tgt := 49) hx hb dX5_isAheadOfEach_7 (by decide) (fun c_7 => ?_) (fun c_7 => ?_)
    · simp only [fa_lt, fa_le, fa_eq] at c_7
      refine lv_iconst (v := 1) hx hb dX5_isAheadOfEach_49 (by decide) ?_
      rw [hQ]
      refine W.widen (k := 0) (n := 0) (Nat.le_refl _) (Nat.le_refl _) ?_
      exact W.zret (v := 1) hx hb hr rfl (fun t ht hW => ⟨⟨1, w2, rfl, ⟨(by decide), (by decide), hw.2.2.2.2, hM⟩, by rw [ht]; exact hw.2.1, va_K.moved hW.alike hw.1, hw.2.2.1⟩, hw.2.2.2.1.F ht⟩) hw.2.2.2.1.2.2 dX5_isAheadOfEach_50
    · simp only [fa_lt, fa_le, fa_eq] at c_7
      refine lv_iload_n hx hb dX5_isAheadOfEach_10 rfl (lv_at hl 2 rfl) ?_
      refine lv_iload_n hx hb dX5_isAheadOfEach_11 rfl (lv_at hl 1 rfl) ?_
      have J43 : ∀ (H : Heap) (locs : List Loc) (ls : Array Slot) (w43 : va_W), tW (dC, dI) tys κ B A s w43 H locs → Sm [] [] κ ws w43 → fld w43 a0 5 0 (.int v4) → lv_has ls 3 [(0, .ref a0), (1, .int a1), (2, .int p2_l2)] → W p l e (headSpec (ws_u yX5_isAheadOfEach cX5_isAheadOfEach 3 (some .boolean)) ({ frames := 2, cells := 0, slots := 0, locals := 47 })).room s m ([.ref a0, .int a1] : List Value).toArray below meth c H locs 0 0 QQ (F0 m 43 ls []) := by
        intro H locs ls w43 hw hM f_a0_X5_0 hl
        obtain ⟨v43, e_v43⟩ : ∃ y : Int32, y = p2_l2 + 1 := ⟨_, rfl⟩
        refine lv_iinc (v := v43) (lv' := [(2, .int v43), (0, .ref a0), (1, .int a1)]) hx hb dX5_isAheadOfEach_43 hl (k := 2) rfl e_v43.symm (by decide) rfl (fun ls hl => ?_)
        have e_v43 : v43.toInt = p2_l2.toInt + 1 := ad_i e_v43 rfl li_1 (by omega) (by omega)
        refine lv_goto (tgt := 2) hx hb dX5_isAheadOfEach_46 (by decide) ?_
        exact ih_2 _ _ _ _ (by omega) ⟨w43, v43, hw, hM, (by omega), (by omega), (lv_sub hl [1, 2, 0] rfl), rfl⟩
      refine lv_icmp_eq (tgt := 43) hx hb dX5_isAheadOfEach_12 (by decide) (fun c_12 => ?_) (fun c_12 => ?_)
      · simp only [fa_lt, fa_le, fa_eq] at c_12
        exact J43 _ _ _ w2 hw hM f_a0_X5_0 (lv_sub hl [0, 1, 2] rfl)
      · simp only [fa_lt, fa_le, fa_eq] at c_12
        refine lv_aload_n hx hb dX5_isAheadOfEach_15 rfl (lv_at hl 0 rfl) ?_
        refine t_geti (ci := 5) (C := RX5) (T := TX5) (N := 8) hx hb hts iX5 hown hw k_a0 rfl rfl rfl 1 (by decide) (hts _ tw_345) (fun _ h9 => h9) dX5_isAheadOfEach_16 rfl (fun v16 l_v16 h_v16 f_a0_X5_1 => ?_)
        have l_v16 : (-2147483648) ≤ v16.toInt := l_v16
        have h_v16 : v16.toInt ≤ 2147483647 := h_v16
        refine lv_iload_n hx hb dX5_isAheadOfEach_19 rfl (lv_at hl 2 rfl) ?_
        refine t_calli (va_runS (As := [.int v16, .int p2_l2]) (rest := []) ⟨hx, hb, hml, hown, hts⟩ (t_X5_isIn l dC dI tys κ B w2 hw.2.2.2.2 v16 p2_l2 (by omega) (by omega) H.size) (va_cwS 2 hts (gUS tw_778 tw_779 tw_10 tw_780) rfl rfl rfl (by decide +kernel) ⟨(Nat.le_of_ble_eq_true rfl), (Nat.le_of_ble_eq_true rfl)⟩) ⟨cPre.blind, cPre.use hw.2.1 hw.1 hw.2.2.1 hE⟩ rfl rfl hl.1 rfl (lv_room (Nat.le_of_ble_eq_true rfl)) dX5_isAheadOfEach_20 ⟨(Nat.le_of_ble_eq_true rfl), (Nat.le_of_ble_eq_true rfl)⟩) hw hA (fun _ _ h => h.2.2.1) (fun v20 w_1 H locs hp hw => ?_)
        obtain ⟨l_v20, h_v20, _, hm⟩ := hp
        have hM := hM.trans hm (by decide) (by decide)
        have f_a0_X5_0 := hm.1 _ _ _ _ f_a0_X5_0 (by decide)
        have f_a0_X5_1 := hm.1 _ _ _ _ f_a0_X5_1 (by decide)
        refine lv_if_eq (tgt := 43) hx hb dX5_isAheadOfEach_23 (by decide) (fun c_23 => ?_) (fun c_23 => ?_)
        · simp only [fa_lt, fa_le, fa_eq, li_0] at c_23
          exact J43 _ _ _ w_1 hw hM f_a0_X5_0 (lv_sub hl [0, 1, 2] rfl)
        · simp only [fa_lt, fa_le, fa_eq, li_0] at c_23
          refine lv_aload_n hx hb dX5_isAheadOfEach_26 rfl (lv_at hl 0 rfl) ?_
          refine lv_iload_n hx hb dX5_isAheadOfEach_27 rfl (lv_at hl 1 rfl) ?_
          refine lv_iload_n hx hb dX5_isAheadOfEach_28 rfl (lv_at hl 2 rfl) ?_
          refine t_calli (va_runV (As := [.int a1, .int p2_l2]) (rest := []) ⟨hx, hb, hml, hown, hts⟩ (t_X5_countWhoWantMore l dC dI tys κ B w_1 hw.2.2.2.2 a0 k_a0 a1 (by omega) (by omega) p2_l2 (by omega) (by omega) H.size) (cwV 2 hts (gUV tw_916 tw_918 ts_2_2 tw_10 tw_919) rfl rfl rfl (by decide +kernel) ⟨(Nat.le_of_ble_eq_true rfl), (Nat.le_of_ble_eq_true rfl)⟩) ⟨cPre.blind, t_recv hw (ci := 5) k_a0 rfl rfl, cPre.use hw.2.1 hw.1 hw.2.2.1 hE⟩ rfl rfl hl.1 rfl (lv_room (Nat.le_of_ble_eq_true rfl)) dX5_isAheadOfEach_29 ⟨(Nat.le_of_ble_eq_true rfl), (Nat.le_of_ble_eq_true rfl)⟩) hw hA (fun _ _ h => h.1) (fun v29 w_2 H locs hp hw => ?_)
          obtain ⟨_, hm⟩ := hp
          have l_v29 := i32_lo v29
          have h_v29 := i32_hi v29
          have hM := hM.trans hm (by decide) (by decide)
          have f_a0_X5_0 := hm.1 _ _ _ _ f_a0_X5_0 (by decide)
          have f_a0_X5_1 := hm.1 _ _ _ _ f_a0_X5_1 (by decide)
          refine lv_aload_n hx hb dX5_isAheadOfEach_32 rfl (lv_at hl 0 rfl) ?_
          refine lv_iload_n hx hb dX5_isAheadOfEach_33 rfl (lv_at hl 2 rfl) ?_
          refine lv_iload_n hx hb dX5_isAheadOfEach_34 rfl (lv_at hl 1 rfl) ?_
          refine t_calli (va_runV (As := [.int p2_l2, .int a1]) (rest := [.int v29]) ⟨hx, hb, hml, hown, hts⟩ (t_X5_countWhoWantMore l dC dI tys κ B w_2 hw.2.2.2.2 a0 k_a0 p2_l2 (by omega) (by omega) a1 (by omega) (by omega) H.size) (cwV 2 hts (gUV tw_916 tw_918 ts_2_2 tw_10 tw_919) rfl rfl rfl (by decide +kernel) ⟨(Nat.le_of_ble_eq_true rfl), (Nat.le_of_ble_eq_true rfl)⟩) ⟨cPre.blind, t_recv hw (ci := 5) k_a0 rfl rfl, cPre.use hw.2.1 hw.1 hw.2.2.1 hE⟩ rfl rfl hl.1 rfl (lv_room (Nat.le_of_ble_eq_true rfl)) dX5_isAheadOfEach_35 ⟨(Nat.le_of_ble_eq_true rfl), (Nat.le_of_ble_eq_true rfl)⟩) hw hA (fun _ _ h => h.1) (fun v35 w_3 H locs hp hw => ?_)
          obtain ⟨_, hm⟩ := hp
          have l_v35 := i32_lo v35
          have h_v35 := i32_hi v35
          have hM := hM.trans hm (by decide) (by decide)
          have f_a0_X5_0 := hm.1 _ _ _ _ f_a0_X5_0 (by decide)
          have f_a0_X5_1 := hm.1 _ _ _ _ f_a0_X5_1 (by decide)
          refine lv_icmp_gt (tgt := 43) hx hb dX5_isAheadOfEach_38 (by decide) (fun c_38 => ?_) (fun c_38 => ?_)
          · simp only [fa_lt, fa_le, fa_eq] at c_38
            exact J43 _ _ _ w_3 hw hM f_a0_X5_0 (lv_sub hl [0, 1, 2] rfl)
          · simp only [fa_lt, fa_le, fa_eq] at c_38
            refine lv_iconst (v := 0) hx hb dX5_isAheadOfEach_41 (by decide) ?_
            rw [hQ]
            refine W.widen (k := 0) (n := 0) (Nat.le_refl _) (Nat.le_refl _) ?_
            exact W.zret (v := 0) hx hb hr rfl (fun t ht hW => ⟨⟨0, w_3, rfl, ⟨(by decide), (by decide), hw.2.2.2.2, hM⟩, by rw [ht]; exact hw.2.1, va_K.moved hW.alike hw.1, hw.2.2.1⟩, hw.2.2.2.1.F ht⟩) hw.2.2.2.1.2.2 dX5_isAheadOfEach_42
  exact J2 _ _ _ _ ⟨ws, 0, hw, hM, (by decide), (by decide), (lv_sub hl [1, 2, 0] rfl), rfl⟩
set_option maxHeartbeats 4000000 in
set_option maxRecDepth 100000 in
theorem t_X5_aheadOfEach (l : Launch) (dC : Nat → ClassId) (dI : Nat → Nat → Nat) (tys : List (ClassId × FieldType)) (κ : tK) (B : Nat) (ws : va_W) (hT : Ty κ tys B ws) (a0 : Nat) (k_a0 : κ a0 = some 5) (sz : Nat) : Met l yX5_aheadOfEach (ws_u yX5_aheadOfEach cX5_aheadOfEach 2 (some .int)) ({ frames := 3, cells := 0, slots := 0, locals := 69 }) (va_Pc [.ref a0] (cPre (dC, dI) tys ws sz)) (va_Qi (fun (r : Int32) (w : va_W) => (-1) ≤ r.toInt ∧ r.toInt ≤ 5 ∧ Ty κ tys B w ∧ Sm [] [] κ ws w) (fun w t => cPost (dC, dI) tys w (va_A ws sz) t) (va_A ws sz)) 0 0 (va_A ws sz) := by
  refine Met.ofW (cc := cX5_aheadOfEach) (maxL := 2) (ret := (some .int)) (by decide) rfl ?_
  intro p e s m args below meth c s₁ B0 hml hv
  obtain ⟨rfl, hsz, hP, hK, hD0, hE⟩ := hv
  have hx := B0.exec
  have hb := B0.bytes
  have hr := B0.returns
  have hts0 := atoms_spec (ws := ws_u yX5_aheadOfEach cX5_aheadOfEach 2 (some .int)) B0.pre
  have hts : ∀ w ∈ gT, w.before _ s = true := fun w h => hts0 w (List.mem_cons_of_mem _ h)
  have hown : s.vm.findClass RX5 = some m.cls := findClass_of_methodNamed B0.named
  have hlocks := B0.notSynchronized
  subst hsz
  have hD := hD0.self (sz := s.heap.size)
  generalize hAe : va_A ws s.heap.size = A at hD ⊢
  have hA : ∀ q : Nat, s.heap.size ≤ q → A q := fun q h => by rw [← hAe]; exact Or.inr h
  have hw : tW (dC, dI) tys κ B A s ws s.heap [] := ⟨hK, hP, hD, va_S.rf, hT⟩
  have hM : Sm [] [] κ ws ws := Sm.rf
  clear hP hK hD hD0 hts0
  have hl := lv_entry ([.ref a0]) (n := 2) (Nat.le_of_ble_eq_true rfl)
  rw [lg_entry_eq]
  generalize (lg_sl ([.ref a0]) ++ List.replicate (2 - (lg_sl ([.ref a0])).length) Slot.unset).toArray = ls at hl ⊢
  have hl : lv_has ls 2 [(0, .ref a0)] := hl
  refine t_start (fun QQ hQ => ?_)
  refine lv_iconst (v := 0) hx hb dX5_aheadOfEach_0 (by decide) ?_
  refine lv_istore_n (lv' := [(1, .int 0), (0, .ref a0)]) hx hb dX5_aheadOfEach_1 rfl hl (by decide) rfl (fun ls hl => ?_)
  have J2 : ∀ (n : Nat) (H : Heap) (locs : List Loc) (ls : Array Slot), (∃ (w2 : va_W) (p2_l1 : Int32), tW (dC, dI) tys κ B A s w2 H locs ∧ Sm [] [] κ ws w2 ∧ 0 ≤ p2_l1.toInt ∧ p2_l1.toInt ≤ 6 ∧ lv_has ls 2 [(0, .ref a0), (1, .int p2_l1)] ∧ (6 - p2_l1.toInt).toNat = n) → W p l e (headSpec (ws_u yX5_aheadOfEach cX5_aheadOfEach 2 (some .int)) ({ frames := 3, cells := 0, slots := 0, locals := 69 })).room s m ([.ref a0] : List Value).toArray below meth c H locs 0 0 QQ (F0 m 2 ls []) := by
    refine loopT _ ?_
    intro n_2 H locs ls hI ih_2
    obtain ⟨w2, p2_l1, hw, hM, l_p2_l1, h_p2_l1, hl, hn_2⟩ := hI
    refine lv_iload_n hx hb dX5_aheadOfEach_2 rfl (lv_at hl 1 rfl) ?_
    refine lv_aload_n hx hb dX5_aheadOfEach_3 rfl (lv_at hl 0 rfl) ?_
    refine t_geti (ci := 5) (C := RX5) (T := TX5) (N := 8) hx hb hts iX5 hown hw k_a0 rfl rfl rfl 0 (by decide) (hts _ tw_344) (fun _ h9 => h9) dX5_aheadOfEach_4 rfl (fun v4 l_v4 h_v4 f_a0_X5_0 => ?_)
    have l_v4 : 0 ≤ v4.toInt := l_v4
    have h_v4 : v4.toInt ≤ 6 := h_v4
    refine lv_icmp_ge (tgt := 37) hx hb dX5_aheadOfEach_7 (by decide) (fun c_7 => ?_) (fun c_7 => ?_)
    · simp only [fa_lt, fa_le, fa_eq] at c_7
      refine lv_iconst (v := (-1)) hx hb dX5_aheadOfEach_37 (by decide) ?_
      rw [hQ]
      refine W.widen (k := 0) (n := 0) (Nat.le_refl _) (Nat.le_refl _) ?_
      exact W.iret (v := (-1)) hx hb hr (fun t ht hW => ⟨⟨(-1), w2, rfl, ⟨(by decide), (by decide), hw.2.2.2.2, hM⟩, by rw [ht]; exact hw.2.1, va_K.moved hW.alike hw.1, hw.2.2.1⟩, hw.2.2.2.1.F ht⟩) hw.2.2.2.1.2.2 dX5_aheadOfEach_38
    · simp only [fa_lt, fa_le, fa_eq] at c_7
      refine lv_aload_n hx hb dX5_aheadOfEach_10 rfl (lv_at hl 0 rfl) ?_
      refine t_geti (ci := 5) (C := RX5) (T := TX5) (N := 8) hx hb hts iX5 hown hw k_a0 rfl rfl rfl 1 (by decide) (hts _ tw_345) (fun _ h9 => h9) dX5_aheadOfEach_11 rfl (fun v11 l_v11 h_v11 f_a0_X5_1 => ?_)
      have l_v11 : (-2147483648) ≤ v11.toInt := l_v11
      have h_v11 : v11.toInt ≤ 2147483647 := h_v11
      refine lv_iload_n hx hb dX5_aheadOfEach_14 rfl (lv_at hl 1 rfl) ?_
      refine t_calli (va_runS (As := [.int v11, .int p2_l1]) (rest := []) ⟨hx, hb, hml, hown, hts⟩ (t_X5_isIn l dC dI tys κ B w2 hw.2.2.2.2 v11 p2_l1 (by omega) (by omega) H.size) (va_cwS 2 hts (gUS tw_778 tw_779 tw_10 tw_780) rfl rfl rfl (by decide +kernel) ⟨(Nat.le_of_ble_eq_true rfl), (Nat.le_of_ble_eq_true rfl)⟩) ⟨cPre.blind, cPre.use hw.2.1 hw.1 hw.2.2.1 hE⟩ rfl rfl hl.1 rfl (lv_room (Nat.le_of_ble_eq_true rfl)) dX5_aheadOfEach_15 ⟨(Nat.le_of_ble_eq_true rfl), (Nat.le_of_ble_eq_true rfl)⟩) hw hA (fun _ _ h => h.2.2.1) (fun v15 w_1 H locs hp hw => ?_)
      obtain ⟨l_v15, h_v15, _, hm⟩ := hp
      have hM := hM.trans hm (by decide) (by decide)
      have f_a0_X5_0 := hm.1 _ _ _ _ f_a0_X5_0 (by decide)
      have f_a0_X5_1 := hm.1 _ _ _ _ f_a0_X5_1 (by decide)
      have J31 : ∀ (H : Heap) (locs : List Loc) (ls : Array Slot) (w31 : va_W), tW (dC, dI) tys κ B A s w31 H locs → Sm [] [] κ ws w31 → fld w31 a0 5 0 (.int v4) → fld w31 a0 5 1 (.int v11) → lv_has ls 2 [(0, .ref a0), (1, .int p2_l1)] → W p l e (headSpec (ws_u yX5_aheadOfEach cX5_aheadOfEach 2 (some .int)) ({ frames := 3, cells := 0, slots := 0, locals := 69 })).room s m ([.ref a0] : List Value).toArray below meth c H locs 0 0 QQ (F0 m 31 ls []) := by
        intro H locs ls w31 hw hM f_a0_X5_0 f_a0_X5_1 hl
        obtain ⟨v31, e_v31⟩ : ∃ y : Int32, y = p2_l1 + 1 := ⟨_, rfl⟩
        refine lv_iinc (v := v31) (lv' := [(1, .int v31), (0, .ref a0)]) hx hb dX5_aheadOfEach_31 hl (k := 1) rfl e_v31.symm (by decide) rfl (fun ls hl => ?_)
        have e_v31 : v31.toInt = p2_l1.toInt + 1 := ad_i e_v31 rfl li_1 (by omega) (by omega)
        refine lv_goto (tgt := 2) hx hb dX5_aheadOfEach_34 (by decide) ?_
        exact ih_2 _ _ _ _ (by omega) ⟨w31, v31, hw, hM, (by omega), (by omega), (lv_sub hl [1, 0] rfl), rfl⟩
      refine lv_if_eq (tgt := 31) hx hb dX5_aheadOfEach_18 (by decide) (fun c_18 => ?_) (fun c_18 => ?_)
      · simp only [fa_lt, fa_le, fa_eq, li_0] at c_18
        exact J31 _ _ _ w_1 hw hM f_a0_X5_0 f_a0_X5_1 (lv_sub hl [0, 1] rfl)
      · simp only [fa_lt, fa_le, fa_eq, li_0] at c_18
        refine lv_aload_n hx hb dX5_aheadOfEach_21 rfl (lv_at hl 0 rfl) ?_
        refine lv_iload_n hx hb dX5_aheadOfEach_22 rfl (lv_at hl 1 rfl) ?_
        refine t_calli (va_runV (As := [.int p2_l1]) (rest := []) ⟨hx, hb, hml, hown, hts⟩ (t_X5_isAheadOfEach l dC dI tys κ B w_1 hw.2.2.2.2 a0 k_a0 p2_l1 (by omega) (by omega) H.size) (cwV 1 hts (gUV tw_924 tw_926 ts_2_3 tw_10 tw_927) rfl rfl rfl (by decide +kernel) ⟨(Nat.le_of_ble_eq_true rfl), (Nat.le_of_ble_eq_true rfl)⟩) ⟨cPre.blind, t_recv hw (ci := 5) k_a0 rfl rfl, cPre.use hw.2.1 hw.1 hw.2.2.1 hE⟩ rfl rfl hl.1 rfl (lv_room (Nat.le_of_ble_eq_true rfl)) dX5_aheadOfEach_23 ⟨(Nat.le_of_ble_eq_true rfl), (Nat.le_of_ble_eq_true rfl)⟩) hw hA (fun _ _ h => h.2.2.1) (fun v23 w_2 H locs hp hw => ?_)
        obtain ⟨l_v23, h_v23, _, hm⟩ := hp
        have hM := hM.trans hm (by decide) (by decide)
        have f_a0_X5_0 := hm.1 _ _ _ _ f_a0_X5_0 (by decide)
        have f_a0_X5_1 := hm.1 _ _ _ _ f_a0_X5_1 (by decide)
        refine lv_if_eq (tgt := 31) hx hb dX5_aheadOfEach_26 (by decide) (fun c_26 => ?_) (fun c_26 => ?_)
        · simp only [fa_lt, fa_le, fa_eq, li_0] at c_26
          exact J31 _ _ _ w_2 hw hM f_a0_X5_0 f_a0_X5_1 (lv_sub hl [0, 1] rfl)
        · simp only [fa_lt, fa_le, fa_eq, li_0] at c_26
          refine lv_iload_n hx hb dX5_aheadOfEach_29 rfl (lv_at hl 1 rfl) ?_
          rw [hQ]
          refine W.widen (k := 0) (n := 0) (Nat.le_refl _) (Nat.le_refl _) ?_
          exact W.iret (v := p2_l1) hx hb hr (fun t ht hW => ⟨⟨p2_l1, w_2, rfl, ⟨(by omega), (by omega), hw.2.2.2.2, hM⟩, by rw [ht]; exact hw.2.1, va_K.moved hW.alike hw.1, hw.2.2.1⟩, hw.2.2.2.1.F ht⟩) hw.2.2.2.1.2.2 dX5_aheadOfEach_30
  exact J2 _ _ _ _ ⟨ws, 0, hw, hM, (by decide), (by decide), (lv_sub hl [1, 0] rfl), rfl⟩
set_option maxHeartbeats 4000000 in
set_option maxRecDepth 100000 in
theorem t_X5_fewestFirstVotes (l : Launch) (dC : Nat → ClassId) (dI : Nat → Nat → Nat) (tys : List (ClassId × FieldType)) (κ : tK) (B : Nat) (ws : va_W) (hT : Ty κ tys B ws) (a0 : Nat) (k_a0 : κ a0 = some 5) (a1 : Int32) (sz : Nat) : Met l yX5_fewestFirstVotes (ws_u yX5_fewestFirstVotes cX5_fewestFirstVotes 4 (some .int)) ({ frames := 2, cells := 0, slots := 0, locals := 47 }) (va_Pc [.ref a0, .int a1] (cPre (dC, dI) tys ws sz)) (va_Qi (fun (r : Int32) (w : va_W) => 0 ≤ r.toInt ∧ r.toInt ≤ 5 ∧ Ty κ tys B w ∧ Sm [] [35] κ ws w) (fun w t => cPost (dC, dI) tys w (va_A ws sz) t) (va_A ws sz)) 0 0 (va_A ws sz) := by
  refine Met.ofW (cc := cX5_fewestFirstVotes) (maxL := 4) (ret := (some .int)) (by decide) rfl ?_
  intro p e s m args below meth c s₁ B0 hml hv
  obtain ⟨rfl, hsz, hP, hK, hD0, hE⟩ := hv
  have hx := B0.exec
  have hb := B0.bytes
  have hr := B0.returns
  have hts0 := atoms_spec (ws := ws_u yX5_fewestFirstVotes cX5_fewestFirstVotes 4 (some .int)) B0.pre
  have hts : ∀ w ∈ gT, w.before _ s = true := fun w h => hts0 w (List.mem_cons_of_mem _ h)
  have hown : s.vm.findClass RX5 = some m.cls := findClass_of_methodNamed B0.named
  have hlocks := B0.notSynchronized
  subst hsz
  have hD := hD0.self (sz := s.heap.size)
  generalize hAe : va_A ws s.heap.size = A at hD ⊢
  have hA : ∀ q : Nat, s.heap.size ≤ q → A q := fun q h => by rw [← hAe]; exact Or.inr h
  have hw : tW (dC, dI) tys κ B A s ws s.heap [] := ⟨hK, hP, hD, va_S.rf, hT⟩
  have hM : Sm [] [35] κ ws ws := Sm.rf
  clear hP hK hD hD0 hts0
  have l_a1 := i32_lo a1
  have h_a1 := i32_hi a1
  have hl := lv_entry ([.ref a0, .int a1]) (n := 4) (Nat.le_of_ble_eq_true rfl)
  rw [lg_entry_eq]
  generalize (lg_sl ([.ref a0, .int a1]) ++ List.replicate (4 - (lg_sl ([.ref a0, .int a1])).length) Slot.unset).toArray = ls at hl ⊢
  have hl : lv_has ls 4 [(0, .ref a0), (1, .int a1)] := hl
  refine t_start (fun QQ hQ => ?_)
  refine lv_aload_n hx hb dX5_fewestFirstVotes_0 rfl (lv_at hl 0 rfl) ?_
  refine t_getr (k1 := 35) (ci := 5) (C := RX5) (T := TX5) (N := 8) hx hb hts iX5 hown hw k_a0 rfl rfl rfl 4 (by decide) (hts _ tw_349) (fun _ h9 => h9) dX5_fewestFirstVotes_1 rfl (fun v1 k_v1 f_a0_X5_4 => ?_)
  refine lv_iconst (v := 0) hx hb dX5_fewestFirstVotes_4 (by decide) ?_
  refine t_callv (va_runS (As := [.ref v1, .int 0]) (rest := []) ⟨hx, hb, hml, hown, hts⟩ (t_J7_fill_53178_Poll_tally l dC dI tys κ B ws hw.2.2.2.2 v1 k_v1 0 s.heap.size) (va_cwS 2 hts (gUS tw_808 tw_489 tw_14 tw_490) rfl rfl rfl (by decide +kernel) ⟨(Nat.le_of_ble_eq_true rfl), (Nat.le_of_ble_eq_true rfl)⟩) ⟨cPre.blind, cPre.use hw.2.1 hw.1 hw.2.2.1 hE⟩ rfl rfl hl.1 rfl (lv_room (Nat.le_of_ble_eq_true rfl)) dX5_fewestFirstVotes_5 ⟨(Nat.le_of_ble_eq_true rfl), (Nat.le_of_ble_eq_true rfl)⟩) hw hA (fun _ h => h.1) (fun w_1 H locs hp hw => ?_)
  obtain ⟨_, hm⟩ := hp
  have hM := hM.trans hm (by decide) (by decide)
  have f_a0_X5_4 := hm.1 _ _ _ _ f_a0_X5_4 (by decide)
  refine lv_iconst (v := 0) hx hb dX5_fewestFirstVotes_8 (by decide) ?_
  refine lv_istore_n (lv' := [(2, .int 0), (0, .ref a0), (1, .int a1)]) hx hb dX5_fewestFirstVotes_9 rfl hl (by decide) rfl (fun ls hl => ?_)
  have J10 : ∀ (n : Nat) (H : Heap) (locs : List Loc) (ls : Array Slot), (∃ (w10 : va_W) (p10_l2 : Int32), tW (dC, dI) tys κ B A s w10 H locs ∧ Sm [] [35] κ ws w10 ∧ 0 ≤ p10_l2.toInt ∧ p10_l2.toInt ≤ 6 ∧ fld w10 a0 5 4 (.ref v1) ∧ lv_has ls 4 [(0, .ref a0), (1, .int a1), (2, .int p10_l2)] ∧ (6 - p10_l2.toInt).toNat = n) → W p l e (headSpec (ws_u yX5_fewestFirstVotes cX5_fewestFirstVotes 4 (some .int)) ({ frames := 2, cells := 0, slots := 0, locals := 47 })).room s m ([.ref a0, .int a1] : List Value).toArray below meth c H locs 0 0 QQ (F0 m 10 ls []) := by
    refine loopT _ ?_
    intro n_10 H locs ls hI ih_10
    obtain ⟨w10, p10_l2, hw, hM, l_p10_l2, h_p10_l2, f_a0_X5_4, hl, hn_10⟩ := hI
    refine lv_iload_n hx hb dX5_fewestFirstVotes_10 rfl (lv_at hl 2 rfl) ?_
    refine lv_aload_n hx hb dX5_fewestFirstVotes_11 rfl (lv_at hl 0 rfl) ?_
    refine t_geti (ci := 5) (C := RX5) (T := TX5) (N := 8) hx hb hts iX5 hown hw k_a0 rfl rfl rfl 0 (by decide) (hts _ tw_344) (fun _ h9 => h9) dX5_fewestFirstVotes_12 rfl (fun v12 l_v12 h_v12 f_a0_X5_0 => ?_)
    have l_v12 : 0 ≤ v12.toInt := l_v12
    have h_v12 : v12.toInt ≤ 6 := h_v12
    refine lv_icmp_ge (tgt := 46) hx hb dX5_fewestFirstVotes_15 (by decide) (fun c_15 => ?_) (fun c_15 => ?_)
    · simp only [fa_lt, fa_le, fa_eq] at c_15
      refine lv_iconst (v := (-1)) hx hb dX5_fewestFirstVotes_46 (by decide) ?_
      refine lv_istore_n (lv' := [(2, .int (-1)), (0, .ref a0), (1, .int a1)]) hx hb dX5_fewestFirstVotes_47 rfl hl (by decide) rfl (fun ls hl => ?_)
      refine lv_iconst (v := 0) hx hb dX5_fewestFirstVotes_48 (by decide) ?_
      refine lv_istore_n (lv' := [(3, .int 0), (2, .int (-1)), (0, .ref a0), (1, .int a1)]) hx hb dX5_fewestFirstVotes_49 rfl hl (by decide) rfl (fun ls hl => ?_)
      have J50 : ∀ (n : Nat) (H : Heap) (locs : List Loc) (ls : Array Slot), (∃ (w50 : va_W) (p50_l2 : Int32) (p50_l3 : Int32), tW (dC, dI) tys κ B A s w50 H locs ∧ Sm [] [35] κ ws w50 ∧ (-1) ≤ p50_l2.toInt ∧ p50_l2.toInt ≤ 5 ∧ 0 ≤ p50_l3.toInt ∧ p50_l3.toInt ≤ 6 ∧ fld w50 a0 5 0 (.int v12) ∧ fld w50 a0 5 4 (.ref v1) ∧ lv_has ls 4 [(0, .ref a0), (1, .int a1), (2, .int p50_l2), (3, .int p50_l3)] ∧ (6 - p50_l3.toInt).toNat = n) → W p l e (headSpec (ws_u yX5_fewestFirstVotes cX5_fewestFirstVotes 4 (some .int)) ({ frames := 2, cells := 0, slots := 0, locals := 47 })).room s m ([.ref a0, .int a1] : List Value).toArray below meth c H locs 0 0 QQ (F0 m 50 ls []) := by
        refine loopT _ ?_
        intro n_50 H locs ls hI ih_50
        obtain ⟨w50, p50_l2, p50_l3, hw, hM, l_p50_l2, h_p50_l2, l_p50_l3, h_p50_l3, f_a0_X5_0, f_a0_X5_4, hl, hn_50⟩ := hI
        refine lv_iload_n hx hb dX5_fewestFirstVotes_50 rfl (lv_at hl 3 rfl) ?_
        refine lv_aload_n hx hb dX5_fewestFirstVotes_51 rfl (lv_at hl 0 rfl) ?_
        refine t_getk (ci := 5) (C := RX5) (T := TX5) (N := 8) hx hb hts iX5 hown hw rfl 0 (by decide) (hts _ tw_344) (fun _ h9 => h9) dX5_fewestFirstVotes_52 f_a0_X5_0 ?_
        refine lv_icmp_ge (tgt := 94) hx hb dX5_fewestFirstVotes_55 (by decide) (fun c_55 => ?_) (fun c_55 => ?_)
        · simp only [fa_lt, fa_le, fa_eq] at c_55
          refine lv_iconst (v := 0) hx hb dX5_fewestFirstVotes_94 (by decide) ?_
          refine lv_iload_n hx hb dX5_fewestFirstVotes_95 rfl (lv_at hl 2 rfl) ?_
          refine va_mmax hx hb (hml.trans hl.1.symm) hown (hts _ tw_936) (hts _ tw_831) (hts _ tw_19) (hts _ tw_832) (Nat.le_of_ble_eq_true rfl) (Nat.le_of_ble_eq_true rfl) (Nat.le_of_ble_eq_true rfl) (Nat.le_of_ble_eq_true rfl) dX5_fewestFirstVotes_96 ?_
          refine lv_topi (fun v96 e_v96 => ?_)
          have g_v96 := mx_i e_v96 li_0 rfl
          rw [hQ]
          refine W.widen (k := 0) (n := 0) (Nat.le_refl _) (Nat.le_refl _) ?_
          exact W.iret (v := v96) hx hb hr (fun t ht hW => ⟨⟨v96, w50, rfl, ⟨(by omega), (by omega), hw.2.2.2.2, hM⟩, by rw [ht]; exact hw.2.1, va_K.moved hW.alike hw.1, hw.2.2.1⟩, hw.2.2.2.1.F ht⟩) hw.2.2.2.1.2.2 dX5_fewestFirstVotes_99
        · simp only [fa_lt, fa_le, fa_eq] at c_55
          refine lv_iload_n hx hb dX5_fewestFirstVotes_58 rfl (lv_at hl 1 rfl) ?_
          refine lv_iload_n hx hb dX5_fewestFirstVotes_59 rfl (lv_at hl 3 rfl) ?_
          refine t_calli (va_runS (As := [.int a1, .int p50_l3]) (rest := []) ⟨hx, hb, hml, hown, hts⟩ (t_X5_isIn l dC dI tys κ B w50 hw.2.2.2.2 a1 p50_l3 (by omega) (by omega) H.size) (va_cwS 2 hts (gUS tw_778 tw_779 tw_10 tw_780) rfl rfl rfl (by decide +kernel) ⟨(Nat.le_of_ble_eq_true rfl), (Nat.le_of_ble_eq_true rfl)⟩) ⟨cPre.blind, cPre.use hw.2.1 hw.1 hw.2.2.1 hE⟩ rfl rfl hl.1 rfl (lv_room (Nat.le_of_ble_eq_true rfl)) dX5_fewestFirstVotes_60 ⟨(Nat.le_of_ble_eq_true rfl), (Nat.le_of_ble_eq_true rfl)⟩) hw hA (fun _ _ h => h.2.2.1) (fun v60 w_2 H locs hp hw => ?_)
          obtain ⟨l_v60, h_v60, _, hm⟩ := hp
          have hM := hM.trans hm (by decide) (by decide)
          have f_a0_X5_0 := hm.1 _ _ _ _ f_a0_X5_0 (by decide)
          have f_a0_X5_4 := hm.1 _ _ _ _ f_a0_X5_4 (by decide)
          have J88 : ∀ (H : Heap) (locs : List Loc) (ls : Array Slot) (w88 : va_W) (p88_l2 : Int32), tW (dC, dI) tys κ B A s w88 H locs → Sm [] [35] κ ws w88 → (-1) ≤ p88_l2.toInt → p88_l2.toInt ≤ 5 → fld w88 a0 5 0 (.int v12) → fld w88 a0 5 4 (.ref v1) → lv_has ls 4 [(0, .ref a0), (1, .int a1), (2, .int p88_l2), (3, .int p50_l3)] → W p l e (headSpec (ws_u yX5_fewestFirstVotes cX5_fewestFirstVotes 4 (some .int)) ({ frames := 2, cells := 0, slots := 0, locals := 47 })).room s m ([.ref a0, .int a1] : List Value).toArray below meth c H locs 0 0 QQ (F0 m 88 ls []) := by
            intro H locs ls w88 p88_l2 hw hM l_p88_l2 h_p88_l2 f_a0_X5_0 f_a0_X5_4 hl
            obtain ⟨v88, e_v88⟩ : ∃ y : Int32, y = p50_l3 + 1 := ⟨_, rfl⟩
            refine lv_iinc (v := v88) (lv' := [(3, .int v88), (0, .ref a0), (1, .int a1), (2, .int p88_l2)]) hx hb dX5_fewestFirstVotes_88 hl (k := 3) rfl e_v88.symm (by decide) rfl (fun ls hl => ?_)
            have e_v88 : v88.toInt = p50_l3.toInt + 1 := ad_i e_v88 rfl li_1 (by omega) (by omega)
            refine lv_goto (tgt := 50) hx hb dX5_fewestFirstVotes_91 (by decide) ?_
            exact ih_50 _ _ _ _ (by omega) ⟨w88, p88_l2, v88, hw, hM, (by omega), (by omega), (by omega), (by omega), f_a0_X5_0, f_a0_X5_4, (lv_sub hl [1, 2, 3, 0] rfl), rfl⟩
          refine lv_if_eq (tgt := 88) hx hb dX5_fewestFirstVotes_63 (by decide) (fun c_63 => ?_) (fun c_63 => ?_)
          · simp only [fa_lt, fa_le, fa_eq, li_0] at c_63
            exact J88 _ _ _ w_2 p50_l2 hw hM (by omega) (by omega) f_a0_X5_0 f_a0_X5_4 (lv_sub hl [0, 1, 2, 3] rfl)
          · simp only [fa_lt, fa_le, fa_eq, li_0] at c_63
            refine lv_iload_n hx hb dX5_fewestFirstVotes_66 rfl (lv_at hl 2 rfl) ?_
            refine lv_iconst (v := (-1)) hx hb dX5_fewestFirstVotes_67 (by decide) ?_
            have J86 : ∀ (H : Heap) (locs : List Loc) (ls : Array Slot) (w86 : va_W), tW (dC, dI) tys κ B A s w86 H locs → Sm [] [35] κ ws w86 → fld w86 a0 5 0 (.int v12) → fld w86 a0 5 4 (.ref v1) → lv_has ls 4 [(0, .ref a0), (1, .int a1), (2, .int p50_l2), (3, .int p50_l3)] → W p l e (headSpec (ws_u yX5_fewestFirstVotes cX5_fewestFirstVotes 4 (some .int)) ({ frames := 2, cells := 0, slots := 0, locals := 47 })).room s m ([.ref a0, .int a1] : List Value).toArray below meth c H locs 0 0 QQ (F0 m 86 ls []) := by
              intro H locs ls w86 hw hM f_a0_X5_0 f_a0_X5_4 hl
              refine lv_iload_n hx hb dX5_fewestFirstVotes_86 rfl (lv_at hl 3 rfl) ?_
              refine lv_istore_n (lv' := [(2, .int p50_l3), (0, .ref a0), (1, .int a1), (3, .int p50_l3)]) hx hb dX5_fewestFirstVotes_87 rfl hl (by decide) rfl (fun ls hl => ?_)
              exact J88 _ _ _ w86 p50_l3 hw hM (by omega) (by omega) f_a0_X5_0 f_a0_X5_4 (lv_sub hl [1, 2, 0, 3] rfl)
            refine lv_icmp_eq (tgt := 86) hx hb dX5_fewestFirstVotes_68 (by decide) (fun c_68 => ?_) (fun c_68 => ?_)
            · simp only [fa_lt, fa_le, fa_eq, li_m1] at c_68
              exact J86 _ _ _ w_2 hw hM f_a0_X5_0 f_a0_X5_4 (lv_sub hl [0, 1, 2, 3] rfl)
            · simp only [fa_lt, fa_le, fa_eq, li_m1] at c_68
              refine lv_aload_n hx hb dX5_fewestFirstVotes_71 rfl (lv_at hl 0 rfl) ?_
              refine t_getk (ci := 5) (C := RX5) (T := TX5) (N := 8) hx hb hts iX5 hown hw rfl 4 (by decide) (hts _ tw_349) (fun _ h9 => h9) dX5_fewestFirstVotes_72 f_a0_X5_4 ?_
              refine lv_iload_n hx hb dX5_fewestFirstVotes_75 rfl (lv_at hl 3 rfl) ?_
              refine t_iald hx hb hw k_v1 rfl rfl (by omega) (show p50_l3.toInt < 6 by omega) dX5_fewestFirstVotes_76 (fun v76 r_v76 s_v76 q_v76 => ?_)
              have l_v76 := i32_lo v76
              have h_v76 := i32_hi v76
              refine lv_aload_n hx hb dX5_fewestFirstVotes_77 rfl (lv_at hl 0 rfl) ?_
              refine t_getk (ci := 5) (C := RX5) (T := TX5) (N := 8) hx hb hts iX5 hown hw rfl 4 (by decide) (hts _ tw_349) (fun _ h9 => h9) dX5_fewestFirstVotes_78 f_a0_X5_4 ?_
              refine lv_iload_n hx hb dX5_fewestFirstVotes_81 rfl (lv_at hl 2 rfl) ?_
              refine t_iald hx hb hw k_v1 rfl rfl (by omega) (show p50_l2.toInt < 6 by omega) dX5_fewestFirstVotes_82 (fun v82 r_v82 s_v82 q_v82 => ?_)
              have l_v82 := i32_lo v82
              have h_v82 := i32_hi v82
              refine lv_icmp_gt (tgt := 88) hx hb dX5_fewestFirstVotes_83 (by decide) (fun c_83 => ?_) (fun c_83 => ?_)
              · simp only [fa_lt, fa_le, fa_eq] at c_83
                exact J88 _ _ _ w_2 p50_l2 hw hM (by omega) (by omega) f_a0_X5_0 f_a0_X5_4 (lv_sub hl [0, 1, 2, 3] rfl)
              · simp only [fa_lt, fa_le, fa_eq] at c_83
                exact J86 _ _ _ w_2 hw hM f_a0_X5_0 f_a0_X5_4 (lv_sub hl [0, 1, 2, 3] rfl)
      exact J50 _ _ _ _ ⟨w10, (-1), 0, hw, hM, (by decide), (by decide), (by decide), (by decide), f_a0_X5_0, f_a0_X5_4, (lv_sub hl [2, 3, 1, 0] rfl), rfl⟩
    · simp only [fa_lt, fa_le, fa_eq] at c_15
      refine lv_aload_n hx hb dX5_fewestFirstVotes_18 rfl (lv_at hl 0 rfl) ?_
      refine lv_iload_n hx hb dX5_fewestFirstVotes_19 rfl (lv_at hl 2 rfl) ?_
      refine lv_iload_n hx hb dX5_fewestFirstVotes_20 rfl (lv_at hl 1 rfl) ?_
      refine t_calli (va_runV (As := [.int p10_l2, .int a1]) (rest := []) ⟨hx, hb, hml, hown, hts⟩ (t_X5_mostWanted l dC dI tys κ B w10 hw.2.2.2.2 a0 k_a0 p10_l2 (by omega) (by omega) a1 H.size) (cwV 2 hts (gUV tw_796 tw_798 ts_1_6 tw_10 tw_799) rfl rfl rfl (by decide +kernel) ⟨(Nat.le_of_ble_eq_true rfl), (Nat.le_of_ble_eq_true rfl)⟩) ⟨cPre.blind, t_recv hw (ci := 5) k_a0 rfl rfl, cPre.use hw.2.1 hw.1 hw.2.2.1 hE⟩ rfl rfl hl.1 rfl (lv_room (Nat.le_of_ble_eq_true rfl)) dX5_fewestFirstVotes_21 ⟨(Nat.le_of_ble_eq_true rfl), (Nat.le_of_ble_eq_true rfl)⟩) hw hA (fun _ _ h => h.2.2.1) (fun v21 w_3 H locs hp hw => ?_)
      obtain ⟨l_v21, h_v21, _, hm⟩ := hp
      have hM := hM.trans hm (by decide) (by decide)
      have f_a0_X5_4 := hm.1 _ _ _ _ f_a0_X5_4 (by decide)
      have f_a0_X5_0 := hm.1 _ _ _ _ f_a0_X5_0 (by decide)
      refine lv_istore_n (lv' := [(3, .int v21), (0, .ref a0), (1, .int a1), (2, .int p10_l2)]) hx hb dX5_fewestFirstVotes_24 rfl hl (by decide) rfl (fun ls hl => ?_)
      refine lv_iload_n hx hb dX5_fewestFirstVotes_25 rfl (lv_at hl 0 rfl) ?_
      refine lv_iconst (v := (-1)) hx hb dX5_fewestFirstVotes_26 (by decide) ?_
      have J40 : ∀ (H : Heap) (locs : List Loc) (ls : Array Slot) (w40 : va_W), tW (dC, dI) tys κ B A s w40 H locs → Sm [] [35] κ ws w40 → fld w40 a0 5 0 (.int v12) → fld w40 a0 5 4 (.ref v1) → lv_has ls 4 [(0, .ref a0), (1, .int a1), (2, .int p10_l2), (3, .int v21)] → W p l e (headSpec (ws_u yX5_fewestFirstVotes cX5_fewestFirstVotes 4 (some .int)) ({ frames := 2, cells := 0, slots := 0, locals := 47 })).room s m ([.ref a0, .int a1] : List Value).toArray below meth c H locs 0 0 QQ (F0 m 40 ls []) := by
        intro H locs ls w40 hw hM f_a0_X5_0 f_a0_X5_4 hl
        obtain ⟨v40, e_v40⟩ : ∃ y : Int32, y = p10_l2 + 1 := ⟨_, rfl⟩
        refine lv_iinc (v := v40) (lv' := [(2, .int v40), (0, .ref a0), (1, .int a1), (3, .int v21)]) hx hb dX5_fewestFirstVotes_40 hl (k := 2) rfl e_v40.symm (by decide) rfl (fun ls hl => ?_)
        have e_v40 : v40.toInt = p10_l2.toInt + 1 := ad_i e_v40 rfl li_1 (by omega) (by omega)
        refine lv_goto (tgt := 10) hx hb dX5_fewestFirstVotes_43 (by decide) ?_
        exact ih_10 _ _ _ _ (by omega) ⟨w40, v40, hw, hM, (by omega), (by omega), f_a0_X5_4, (lv_sub hl [1, 2, 0] rfl), rfl⟩
      refine lv_icmp_eq (tgt := 40) hx hb dX5_fewestFirstVotes_27 (by decide) (fun c_27 => ?_) (fun c_27 => ?_)
      · simp only [fa_lt, fa_le, fa_eq, li_m1] at c_27
        exact J40 _ _ _ w_3 hw hM f_a0_X5_0 f_a0_X5_4 (lv_sub hl [1, 2, 3, 0] rfl)
      · simp only [fa_lt, fa_le, fa_eq, li_m1] at c_27
        refine lv_aload_n hx hb dX5_fewestFirstVotes_30 rfl (lv_at hl 1 rfl) ?_
        refine t_getk (ci := 5) (C := RX5) (T := TX5) (N := 8) hx hb hts iX5 hown hw rfl 4 (by decide) (hts _ tw_349) (fun _ h9 => h9) dX5_fewestFirstVotes_31 f_a0_X5_4 ?_
        refine lv_iload_n hx hb dX5_fewestFirstVotes_34 rfl (lv_at hl 0 rfl) ?_
        refine lv_dup2_11 hx hb dX5_fewestFirstVotes_35 rfl rfl ?_
        refine t_iald hx hb hw k_v1 rfl rfl (by omega) (show v21.toInt < 6 by omega) dX5_fewestFirstVotes_36 (fun v36 r_v36 s_v36 q_v36 => ?_)
        have l_v36 := i32_lo v36
        have h_v36 := i32_hi v36
        refine lv_iconst (v := 1) hx hb dX5_fewestFirstVotes_37 (by decide) ?_
        refine lv_iadd hx hb dX5_fewestFirstVotes_38 ?_
        refine lv_topi (fun v38 e_v38 => ?_)
        have l_v38 := i32_lo v38
        have h_v38 := i32_hi v38
        refine t_iast hx hb hw k_v1 rfl rfl (by omega) (show v21.toInt < 6 by omega) (i32_lo _) (i32_hi _) dX5_fewestFirstVotes_39 (fun w_4 H locs hw u => ?_)
        have hM := hM.up3 u k_v1 (by decide)
        have f_a0_X5_4 := u.1 _ _ _ _ f_a0_X5_4
        have f_a0_X5_0 := u.1 _ _ _ _ f_a0_X5_0
        exact J40 _ _ _ w_4 hw hM f_a0_X5_0 f_a0_X5_4 (lv_sub hl [1, 2, 3, 0] rfl)
  exact J10 _ _ _ _ ⟨w_1, 0, hw, hM, (by decide), (by decide), f_a0_X5_4, (lv_sub hl [1, 2, 0] rfl), rfl⟩
