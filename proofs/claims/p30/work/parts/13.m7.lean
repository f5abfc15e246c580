theorem ts_1_15 : Cond.selects "BoyBishop" ⟨"BoyBishop", "isSinging", "(I)Z"⟩ ⟨"BoyBishop", "isSinging", "(I)Z"⟩ ∈ gT := gT_in (List.mem_append_left _ (List.mem_map.mpr ⟨(⟨"BoyBishop", "isSinging", "(I)Z"⟩, 12), (List.mem_append_right _ (List.mem_append_left _ (List.mem_of_getElem? (i := 15) rfl))), rfl⟩)) rfl
theorem ts_2_8 : Cond.selects "BoyBishop" ⟨"BoyBishop", "youngestCanon", "()I"⟩ ⟨"BoyBishop", "youngestCanon", "()I"⟩ ∈ gT := gT_in (List.mem_append_left _ (List.mem_map.mpr ⟨(⟨"BoyBishop", "youngestCanon", "()I"⟩, 12), (List.mem_append_right _ (List.mem_append_right _ (List.mem_append_left _ (List.mem_of_getElem? (i := 8) rfl)))), rfl⟩)) rfl
theorem tw_100 : (Jvm.Cond.fieldLink "BoyBishop" (149 : Nat) "BoyBishop$Choir" "fade" "[I") ∈ gT := gT_in (List.mem_append_right _ (List.mem_append_left _ (List.mem_of_getElem? (i := 100) rfl))) rfl
theorem tw_1000 : (Jvm.Cond.selects "BoyBishop$Standing" ({ cls := "BoyBishop$Standing", name := "deathDay", desc := "(I)I" } : Jvm.MethodName) ({ cls := "BoyBishop$Standing", name := "deathDay", desc := "(I)I" } : Jvm.MethodName)) ∈ gT := gT_in (List.mem_append_right _ (List.mem_append_right _ (List.mem_append_right _ (List.mem_append_right _ (List.mem_append_right _ (List.mem_append_left _ (List.mem_of_getElem? (i := 40) rfl))))))) rfl
theorem tw_1001 : (Jvm.Cond.code ({ cls := "BoyBishop$Standing", name := "deathDay", desc := "(I)I" } : Jvm.MethodName) prog_10_method_13_code (3 : Nat) (Option.some Jvm.ClassFile.FieldType.int)) ∈ gT := gT_in (List.mem_append_right _ (List.mem_append_right _ (List.mem_append_right _ (List.mem_append_right _ (List.mem_append_right _ (List.mem_append_left _ (List.mem_of_getElem? (i := 41) rfl))))))) rfl
theorem tw_1011 : (Jvm.Cond.methodLink "BoyBishop" (308 : Nat) ({ cls := "BoyBishop", name := "youngestCanon", desc := "()I" } : Jvm.MethodName)) ∈ gT := gT_in (List.mem_append_right _ (List.mem_append_right _ (List.mem_append_right _ (List.mem_append_right _ (List.mem_append_right _ (List.mem_append_left _ (List.mem_of_getElem? (i := 51) rfl))))))) rfl
theorem tw_1013 : (Jvm.Cond.instanceMethod ({ cls := "BoyBishop", name := "youngestCanon", desc := "()I" } : Jvm.MethodName)) ∈ gT := gT_in (List.mem_append_right _ (List.mem_append_right _ (List.mem_append_right _ (List.mem_append_right _ (List.mem_append_right _ (List.mem_append_left _ (List.mem_of_getElem? (i := 53) rfl))))))) rfl
theorem tw_1014 : (Jvm.Cond.code ({ cls := "BoyBishop", name := "youngestCanon", desc := "()I" } : Jvm.MethodName) prog_1_method_31_code (4 : Nat) (Option.some Jvm.ClassFile.FieldType.int)) ∈ gT := gT_in (List.mem_append_right _ (List.mem_append_right _ (List.mem_append_right _ (List.mem_append_right _ (List.mem_append_right _ (List.mem_append_left _ (List.mem_of_getElem? (i := 54) rfl))))))) rfl
theorem tw_230 : (Jvm.Cond.fieldLink "BoyBishop" (222 : Nat) "BoyBishop$Standing" "out" "Z") ∈ gT := gT_in (List.mem_append_right _ (List.mem_append_left _ (List.mem_of_getElem? (i := 230) rfl))) rfl
theorem tw_244 : (Jvm.Cond.fieldLink "BoyBishop" (146 : Nat) "BoyBishop$Standing" "share" "[I") ∈ gT := gT_in (List.mem_append_right _ (List.mem_append_right _ (List.mem_append_left _ (List.mem_of_getElem? (i := 4) rfl)))) rfl
theorem tw_247 : (Jvm.Cond.fieldLink "BoyBishop" (152 : Nat) "BoyBishop$Standing" "was" "[I") ∈ gT := gT_in (List.mem_append_right _ (List.mem_append_right _ (List.mem_append_left _ (List.mem_of_getElem? (i := 7) rfl)))) rfl
theorem tw_249 : (Jvm.Cond.fieldLink "BoyBishop" (161 : Nat) "BoyBishop$Standing" "age" "[I") ∈ gT := gT_in (List.mem_append_right _ (List.mem_append_right _ (List.mem_append_left _ (List.mem_of_getElem? (i := 9) rfl)))) rfl
theorem tw_327 : (Jvm.Cond.fieldLink "BoyBishop$Past" (11 : Nat) "BoyBishop$Past" "ring" "[LBoyBishop$Standing;") ∈ gT := gT_in (List.mem_append_right _ (List.mem_append_right _ (List.mem_append_left _ (List.mem_of_getElem? (i := 87) rfl)))) rfl
theorem tw_328 : (Jvm.Cond.fieldLink "BoyBishop$Past" (16 : Nat) "BoyBishop$Past" "next" "I") ∈ gT := gT_in (List.mem_append_right _ (List.mem_append_right _ (List.mem_append_left _ (List.mem_of_getElem? (i := 88) rfl)))) rfl
theorem tw_738 : (Jvm.Cond.methodLink "BoyBishop" (189 : Nat) ({ cls := "BoyBishop$Choir", name := "hoursBetween", desc := "(II)I" } : Jvm.MethodName)) ∈ gT := gT_in (List.mem_append_right _ (List.mem_append_right _ (List.mem_append_right _ (List.mem_append_right _ (List.mem_append_left _ (List.mem_of_getElem? (i := 18) rfl)))))) rfl
theorem tw_739 : (Jvm.Cond.instanceMethod ({ cls := "BoyBishop$Choir", name := "hoursBetween", desc := "(II)I" } : Jvm.MethodName)) ∈ gT := gT_in (List.mem_append_right _ (List.mem_append_right _ (List.mem_append_right _ (List.mem_append_right _ (List.mem_append_left _ (List.mem_of_getElem? (i := 19) rfl)))))) rfl
theorem tw_740 : (Jvm.Cond.selects "BoyBishop$Choir" ({ cls := "BoyBishop$Choir", name := "hoursBetween", desc := "(II)I" } : Jvm.MethodName) ({ cls := "BoyBishop$Choir", name := "hoursBetween", desc := "(II)I" } : Jvm.MethodName)) ∈ gT := gT_in (List.mem_append_right _ (List.mem_append_right _ (List.mem_append_right _ (List.mem_append_right _ (List.mem_append_left _ (List.mem_of_getElem? (i := 20) rfl)))))) rfl
theorem tw_741 : (Jvm.Cond.code ({ cls := "BoyBishop$Choir", name := "hoursBetween", desc := "(II)I" } : Jvm.MethodName) prog_2_method_6_code (3 : Nat) (Option.some Jvm.ClassFile.FieldType.int)) ∈ gT := gT_in (List.mem_append_right _ (List.mem_append_right _ (List.mem_append_right _ (List.mem_append_right _ (List.mem_append_left _ (List.mem_of_getElem? (i := 21) rfl)))))) rfl
theorem tw_747 : (Jvm.Cond.methodLink "BoyBishop" (201 : Nat) ({ cls := "BoyBishop$Past", name := "keep", desc := "(LBoyBishop$Standing;)V" } : Jvm.MethodName)) ∈ gT := gT_in (List.mem_append_right _ (List.mem_append_right _ (List.mem_append_right _ (List.mem_append_right _ (List.mem_append_left _ (List.mem_of_getElem? (i := 27) rfl)))))) rfl
theorem tw_748 : (Jvm.Cond.instanceMethod ({ cls := "BoyBishop$Past", name := "keep", desc := "(LBoyBishop$Standing;)V" } : Jvm.MethodName)) ∈ gT := gT_in (List.mem_append_right _ (List.mem_append_right _ (List.mem_append_right _ (List.mem_append_right _ (List.mem_append_left _ (List.mem_of_getElem? (i := 28) rfl)))))) rfl
theorem tw_749 : (Jvm.Cond.selects "BoyBishop$Past" ({ cls := "BoyBishop$Past", name := "keep", desc := "(LBoyBishop$Standing;)V" } : Jvm.MethodName) ({ cls := "BoyBishop$Past", name := "keep", desc := "(LBoyBishop$Standing;)V" } : Jvm.MethodName)) ∈ gT := gT_in (List.mem_append_right _ (List.mem_append_right _ (List.mem_append_right _ (List.mem_append_right _ (List.mem_append_left _ (List.mem_of_getElem? (i := 29) rfl)))))) rfl
theorem tw_750 : (Jvm.Cond.code ({ cls := "BoyBishop$Past", name := "keep", desc := "(LBoyBishop$Standing;)V" } : Jvm.MethodName) prog_6_method_2_code (2 : Nat) (Option.none : Option Jvm.ClassFile.FieldType)) ∈ gT := gT_in (List.mem_append_right _ (List.mem_append_right _ (List.mem_append_right _ (List.mem_append_right _ (List.mem_append_left _ (List.mem_of_getElem? (i := 30) rfl)))))) rfl
theorem tw_751 : (Jvm.Cond.methodLink "BoyBishop$Past" (20 : Nat) ({ cls := "BoyBishop$Standing", name := "copyFrom", desc := "(LBoyBishop$Standing;)V" } : Jvm.MethodName)) ∈ gT := gT_in (List.mem_append_right _ (List.mem_append_right _ (List.mem_append_right _ (List.mem_append_right _ (List.mem_append_left _ (List.mem_of_getElem? (i := 31) rfl)))))) rfl
theorem tw_755 : (Jvm.Cond.methodLink "BoyBishop$Past" (27 : Nat) ({ cls := "java/lang/Math", name := "min", desc := "(II)I" } : Jvm.MethodName)) ∈ gT := gT_in (List.mem_append_right _ (List.mem_append_right _ (List.mem_append_right _ (List.mem_append_right _ (List.mem_append_left _ (List.mem_of_getElem? (i := 35) rfl)))))) rfl
theorem tw_849 : (Jvm.Cond.methodLink "BoyBishop" (225 : Nat) ({ cls := "BoyBishop$Choir", name := "hoursOn", desc := "(I)I" } : Jvm.MethodName)) ∈ gT := gT_in (List.mem_append_right _ (List.mem_append_right _ (List.mem_append_right _ (List.mem_append_right _ (List.mem_append_left _ (List.mem_of_getElem? (i := 129) rfl)))))) rfl
theorem tw_85 : (Jvm.Cond.fieldLink "BoyBishop" (311 : Nat) "BoyBishop$Choir" "canons" "I") ∈ gT := gT_in (List.mem_append_right _ (List.mem_append_left _ (List.mem_of_getElem? (i := 85) rfl))) rfl
theorem tw_850 : (Jvm.Cond.instanceMethod ({ cls := "BoyBishop$Choir", name := "hoursOn", desc := "(I)I" } : Jvm.MethodName)) ∈ gT := gT_in (List.mem_append_right _ (List.mem_append_right _ (List.mem_append_right _ (List.mem_append_right _ (List.mem_append_left _ (List.mem_of_getElem? (i := 130) rfl)))))) rfl
theorem tw_851 : (Jvm.Cond.selects "BoyBishop$Choir" ({ cls := "BoyBishop$Choir", name := "hoursOn", desc := "(I)I" } : Jvm.MethodName) ({ cls := "BoyBishop$Choir", name := "hoursOn", desc := "(I)I" } : Jvm.MethodName)) ∈ gT := gT_in (List.mem_append_right _ (List.mem_append_right _ (List.mem_append_right _ (List.mem_append_right _ (List.mem_append_left _ (List.mem_of_getElem? (i := 131) rfl)))))) rfl
theorem tw_852 : (Jvm.Cond.code ({ cls := "BoyBishop$Choir", name := "hoursOn", desc := "(I)I" } : Jvm.MethodName) prog_2_method_8_code (2 : Nat) (Option.some Jvm.ClassFile.FieldType.int)) ∈ gT := gT_in (List.mem_append_right _ (List.mem_append_right _ (List.mem_append_right _ (List.mem_append_right _ (List.mem_append_left _ (List.mem_of_getElem? (i := 132) rfl)))))) rfl
theorem tw_878 : (Jvm.Cond.methodLink "BoyBishop" (231 : Nat) ({ cls := "BoyBishop", name := "isSinging", desc := "(I)Z" } : Jvm.MethodName)) ∈ gT := gT_in (List.mem_append_right _ (List.mem_append_right _ (List.mem_append_right _ (List.mem_append_right _ (List.mem_append_left _ (List.mem_of_getElem? (i := 158) rfl)))))) rfl
theorem tw_880 : (Jvm.Cond.instanceMethod ({ cls := "BoyBishop", name := "isSinging", desc := "(I)Z" } : Jvm.MethodName)) ∈ gT := gT_in (List.mem_append_right _ (List.mem_append_right _ (List.mem_append_right _ (List.mem_append_right _ (List.mem_append_left _ (List.mem_of_getElem? (i := 160) rfl)))))) rfl
theorem tw_881 : (Jvm.Cond.code ({ cls := "BoyBishop", name := "isSinging", desc := "(I)Z" } : Jvm.MethodName) prog_1_method_42_code (2 : Nat) (Option.some Jvm.ClassFile.FieldType.boolean)) ∈ gT := gT_in (List.mem_append_right _ (List.mem_append_right _ (List.mem_append_right _ (List.mem_append_right _ (List.mem_append_left _ (List.mem_of_getElem? (i := 161) rfl)))))) rfl
theorem tw_983 : (Jvm.Cond.methodLink "BoyBishop" (292 : Nat) ({ cls := "BoyBishop$Standing", name := "laidBy", desc := "(I)I" } : Jvm.MethodName)) ∈ gT := gT_in (List.mem_append_right _ (List.mem_append_right _ (List.mem_append_right _ (List.mem_append_right _ (List.mem_append_right _ (List.mem_append_left _ (List.mem_of_getElem? (i := 23) rfl))))))) rfl
theorem tw_984 : (Jvm.Cond.instanceMethod ({ cls := "BoyBishop$Standing", name := "laidBy", desc := "(I)I" } : Jvm.MethodName)) ∈ gT := gT_in (List.mem_append_right _ (List.mem_append_right _ (List.mem_append_right _ (List.mem_append_right _ (List.mem_append_right _ (List.mem_append_left _ (List.mem_of_getElem? (i := 24) rfl))))))) rfl
theorem tw_985 : (Jvm.Cond.selects "BoyBishop$Standing" ({ cls := "BoyBishop$Standing", name := "laidBy", desc := "(I)I" } : Jvm.MethodName) ({ cls := "BoyBishop$Standing", name := "laidBy", desc := "(I)I" } : Jvm.MethodName)) ∈ gT := gT_in (List.mem_append_right _ (List.mem_append_right _ (List.mem_append_right _ (List.mem_append_right _ (List.mem_append_right _ (List.mem_append_left _ (List.mem_of_getElem? (i := 25) rfl))))))) rfl
theorem tw_986 : (Jvm.Cond.code ({ cls := "BoyBishop$Standing", name := "laidBy", desc := "(I)I" } : Jvm.MethodName) prog_10_method_12_code (4 : Nat) (Option.some Jvm.ClassFile.FieldType.int)) ∈ gT := gT_in (List.mem_append_right _ (List.mem_append_right _ (List.mem_append_right _ (List.mem_append_right _ (List.mem_append_right _ (List.mem_append_left _ (List.mem_of_getElem? (i := 26) rfl))))))) rfl
theorem tw_987 : (Jvm.Cond.methodLink "BoyBishop" (295 : Nat) ({ cls := "BoyBishop$Choir", name := "roundHours", desc := "(II)I" } : Jvm.MethodName)) ∈ gT := gT_in (List.mem_append_right _ (List.mem_append_right _ (List.mem_append_right _ (List.mem_append_right _ (List.mem_append_right _ (List.mem_append_left _ (List.mem_of_getElem? (i := 27) rfl))))))) rfl
theorem tw_988 : (Jvm.Cond.instanceMethod ({ cls := "BoyBishop$Choir", name := "roundHours", desc := "(II)I" } : Jvm.MethodName)) ∈ gT := gT_in (List.mem_append_right _ (List.mem_append_right _ (List.mem_append_right _ (List.mem_append_right _ (List.mem_append_right _ (List.mem_append_left _ (List.mem_of_getElem? (i := 28) rfl))))))) rfl
theorem tw_989 : (Jvm.Cond.selects "BoyBishop$Choir" ({ cls := "BoyBishop$Choir", name := "roundHours", desc := "(II)I" } : Jvm.MethodName) ({ cls := "BoyBishop$Choir", name := "roundHours", desc := "(II)I" } : Jvm.MethodName)) ∈ gT := gT_in (List.mem_append_right _ (List.mem_append_right _ (List.mem_append_right _ (List.mem_append_right _ (List.mem_append_right _ (List.mem_append_left _ (List.mem_of_getElem? (i := 29) rfl))))))) rfl
theorem tw_990 : (Jvm.Cond.code ({ cls := "BoyBishop$Choir", name := "roundHours", desc := "(II)I" } : Jvm.MethodName) prog_2_method_9_code (3 : Nat) (Option.some Jvm.ClassFile.FieldType.int)) ∈ gT := gT_in (List.mem_append_right _ (List.mem_append_right _ (List.mem_append_right _ (List.mem_append_right _ (List.mem_append_right _ (List.mem_append_left _ (List.mem_of_getElem? (i := 30) rfl))))))) rfl
theorem tw_998 : (Jvm.Cond.methodLink "BoyBishop" (301 : Nat) ({ cls := "BoyBishop$Standing", name := "deathDay", desc := "(I)I" } : Jvm.MethodName)) ∈ gT := gT_in (List.mem_append_right _ (List.mem_append_right _ (List.mem_append_right _ (List.mem_append_right _ (List.mem_append_right _ (List.mem_append_left _ (List.mem_of_getElem? (i := 38) rfl))))))) rfl
theorem tw_999 : (Jvm.Cond.instanceMethod ({ cls := "BoyBishop$Standing", name := "deathDay", desc := "(I)I" } : Jvm.MethodName)) ∈ gT := gT_in (List.mem_append_right _ (List.mem_append_right _ (List.mem_append_right _ (List.mem_append_right _ (List.mem_append_right _ (List.mem_append_left _ (List.mem_of_getElem? (i := 39) rfl))))))) rfl
theorem dX11_best_0 : decode cX11_best 0 = .ok (.aload_n 0, 1) := by decide +kernel
theorem dX11_best_1 : decode cX11_best 1 = .ok (.getfield 45, 3) := by decide +kernel
theorem dX11_best_4 : decode cX11_best 4 = .ok (.getfield 53, 3) := by decide +kernel
theorem dX11_best_7 : decode cX11_best 7 = .ok (.getfield 194, 3) := by decide +kernel
theorem dX11_best_10 : decode cX11_best 10 = .ok (.ifCond .eq 12, 3) := by decide +kernel
theorem dX11_best_13 : decode cX11_best 13 = .ok (.iload_n 1, 1) := by decide +kernel
theorem dX11_best_14 : decode cX11_best 14 = .ok (.ifCond .lt 8, 3) := by decide +kernel
theorem dX11_best_17 : decode cX11_best 17 = .ok (.iload_n 1, 1) := by decide +kernel
theorem dX11_best_18 : decode cX11_best 18 = .ok (.iconst 1, 1) := by decide +kernel
theorem dX11_best_19 : decode cX11_best 19 = .ok (.if_icmp .le 5, 3) := by decide +kernel
theorem dX11_best_22 : decode cX11_best 22 = .ok (.iconst (-1), 1) := by decide +kernel
theorem dX11_best_23 : decode cX11_best 23 = .ok (.ireturn, 1) := by decide +kernel
theorem dX11_best_24 : decode cX11_best 24 = .ok (.aload_n 0, 1) := by decide +kernel
theorem dX11_best_25 : decode cX11_best 25 = .ok (.invokevirtual 308, 3) := by decide +kernel
theorem dX11_best_28 : decode cX11_best 28 = .ok (.istore_n 2, 1) := by decide +kernel
theorem dX11_best_29 : decode cX11_best 29 = .ok (.iload_n 2, 1) := by decide +kernel
theorem dX11_best_30 : decode cX11_best 30 = .ok (.iconst (-1), 1) := by decide +kernel
theorem dX11_best_31 : decode cX11_best 31 = .ok (.if_icmp .ne 6, 3) := by decide +kernel
theorem dX11_best_34 : decode cX11_best 34 = .ok (.bipush (-2), 2) := by decide +kernel
theorem dX11_best_36 : decode cX11_best 36 = .ok (.ireturn, 1) := by decide +kernel
theorem dX11_best_37 : decode cX11_best 37 = .ok (.iload_n 1, 1) := by decide +kernel
theorem dX11_best_38 : decode cX11_best 38 = .ok (.ifCond .ne 7, 3) := by decide +kernel
theorem dX11_best_41 : decode cX11_best 41 = .ok (.iload_n 2, 1) := by decide +kernel
theorem dX11_best_42 : decode cX11_best 42 = .ok (.goto 27, 3) := by decide +kernel
theorem dX11_best_45 : decode cX11_best 45 = .ok (.aload_n 0, 1) := by decide +kernel
theorem dX11_best_46 : decode cX11_best 46 = .ok (.getfield 45, 3) := by decide +kernel
theorem dX11_best_49 : decode cX11_best 49 = .ok (.getfield 115, 3) := by decide +kernel
theorem dX11_best_52 : decode cX11_best 52 = .ok (.iload_n 2, 1) := by decide +kernel
theorem dX11_best_53 : decode cX11_best 53 = .ok (.invokevirtual 301, 3) := by decide +kernel
theorem dX11_best_56 : decode cX11_best 56 = .ok (.iconst 1, 1) := by decide +kernel
theorem dX11_best_57 : decode cX11_best 57 = .ok (.iadd, 1) := by decide +kernel
theorem dX11_best_58 : decode cX11_best 58 = .ok (.aload_n 0, 1) := by decide +kernel
theorem dX11_best_59 : decode cX11_best 59 = .ok (.getfield 45, 3) := by decide +kernel
theorem dX11_best_62 : decode cX11_best 62 = .ok (.getfield 115, 3) := by decide +kernel
theorem dX11_best_65 : decode cX11_best 65 = .ok (.getfield 198, 3) := by decide +kernel
theorem dX11_best_68 : decode cX11_best 68 = .ok (.isub, 1) := by decide +kernel
theorem dX11_best_69 : decode cX11_best 69 = .ok (.ireturn, 1) := by decide +kernel
theorem dX11_bestRound_0 : decode cX11_bestRound 0 = .ok (.iconst 0, 1) := by decide +kernel
theorem dX11_bestRound_1 : decode cX11_bestRound 1 = .ok (.istore_n 1, 1) := by decide +kernel
theorem dX11_bestRound_2 : decode cX11_bestRound 2 = .ok (.iconst 0, 1) := by decide +kernel
theorem dX11_bestRound_3 : decode cX11_bestRound 3 = .ok (.istore_n 2, 1) := by decide +kernel
theorem dX11_bestRound_4 : decode cX11_bestRound 4 = .ok (.iconst 0, 1) := by decide +kernel
theorem dX11_bestRound_5 : decode cX11_bestRound 5 = .ok (.istore_n 3, 1) := by decide +kernel
theorem dX11_bestRound_6 : decode cX11_bestRound 6 = .ok (.aload_n 0, 1) := by decide +kernel
theorem dX11_bestRound_7 : decode cX11_bestRound 7 = .ok (.getfield 45, 3) := by decide +kernel
theorem dX11_bestRound_10 : decode cX11_bestRound 10 = .ok (.getfield 53, 3) := by decide +kernel
theorem dX11_bestRound_13 : decode cX11_bestRound 13 = .ok (.aload_n 0, 1) := by decide +kernel
theorem dX11_bestRound_14 : decode cX11_bestRound 14 = .ok (.getfield 45, 3) := by decide +kernel
theorem dX11_bestRound_17 : decode cX11_bestRound 17 = .ok (.getfield 115, 3) := by decide +kernel
theorem dX11_bestRound_20 : decode cX11_bestRound 20 = .ok (.getfield 198, 3) := by decide +kernel
theorem dX11_bestRound_23 : decode cX11_bestRound 23 = .ok (.invokevirtual 225, 3) := by decide +kernel
theorem dX11_bestRound_26 : decode cX11_bestRound 26 = .ok (.istore 4, 2) := by decide +kernel
theorem dX11_bestRound_28 : decode cX11_bestRound 28 = .ok (.iconst 1, 1) := by decide +kernel
theorem dX11_bestRound_29 : decode cX11_bestRound 29 = .ok (.istore 5, 2) := by decide +kernel
theorem dX11_bestRound_31 : decode cX11_bestRound 31 = .ok (.iload 5, 2) := by decide +kernel
theorem dX11_bestRound_33 : decode cX11_bestRound 33 = .ok (.iconst 1, 1) := by decide +kernel
theorem dX11_bestRound_34 : decode cX11_bestRound 34 = .ok (.aload_n 0, 1) := by decide +kernel
theorem dX11_bestRound_35 : decode cX11_bestRound 35 = .ok (.getfield 45, 3) := by decide +kernel
theorem dX11_bestRound_38 : decode cX11_bestRound 38 = .ok (.getfield 53, 3) := by decide +kernel
theorem dX11_bestRound_41 : decode cX11_bestRound 41 = .ok (.getfield 298, 3) := by decide +kernel
theorem dX11_bestRound_44 : decode cX11_bestRound 44 = .ok (.ishl, 1) := by decide +kernel
theorem dX11_bestRound_45 : decode cX11_bestRound 45 = .ok (.if_icmp .ge 75, 3) := by decide +kernel
theorem dX11_bestRound_48 : decode cX11_bestRound 48 = .ok (.aload_n 0, 1) := by decide +kernel
theorem dX11_bestRound_49 : decode cX11_bestRound 49 = .ok (.getfield 45, 3) := by decide +kernel
theorem dX11_bestRound_52 : decode cX11_bestRound 52 = .ok (.getfield 115, 3) := by decide +kernel
theorem dX11_bestRound_55 : decode cX11_bestRound 55 = .ok (.iload 5, 2) := by decide +kernel
theorem dX11_bestRound_57 : decode cX11_bestRound 57 = .ok (.invokevirtual 292, 3) := by decide +kernel
theorem dX11_bestRound_60 : decode cX11_bestRound 60 = .ok (.istore 6, 2) := by decide +kernel
theorem dX11_bestRound_62 : decode cX11_bestRound 62 = .ok (.iload 6, 2) := by decide +kernel
theorem dX11_bestRound_64 : decode cX11_bestRound 64 = .ok (.iload_n 1, 1) := by decide +kernel
theorem dX11_bestRound_65 : decode cX11_bestRound 65 = .ok (.if_icmp .ge 6, 3) := by decide +kernel
theorem dX11_bestRound_68 : decode cX11_bestRound 68 = .ok (.goto 46, 3) := by decide +kernel
theorem dX11_bestRound_71 : decode cX11_bestRound 71 = .ok (.aload_n 0, 1) := by decide +kernel
theorem dX11_bestRound_72 : decode cX11_bestRound 72 = .ok (.getfield 45, 3) := by decide +kernel
theorem dX11_bestRound_75 : decode cX11_bestRound 75 = .ok (.getfield 53, 3) := by decide +kernel
theorem dX11_bestRound_78 : decode cX11_bestRound 78 = .ok (.iconst 0, 1) := by decide +kernel
theorem dX11_bestRound_79 : decode cX11_bestRound 79 = .ok (.iload 5, 2) := by decide +kernel
theorem dX11_bestRound_81 : decode cX11_bestRound 81 = .ok (.invokevirtual 295, 3) := by decide +kernel
theorem dX11_bestRound_84 : decode cX11_bestRound 84 = .ok (.istore 7, 2) := by decide +kernel
theorem dX11_bestRound_86 : decode cX11_bestRound 86 = .ok (.iload 7, 2) := by decide +kernel
theorem dX11_bestRound_88 : decode cX11_bestRound 88 = .ok (.iload 4, 2) := by decide +kernel
theorem dX11_bestRound_90 : decode cX11_bestRound 90 = .ok (.if_icmp .gt 24, 3) := by decide +kernel
theorem dX11_bestRound_93 : decode cX11_bestRound 93 = .ok (.iload 6, 2) := by decide +kernel
theorem dX11_bestRound_95 : decode cX11_bestRound 95 = .ok (.iload_n 1, 1) := by decide +kernel
theorem dX11_bestRound_96 : decode cX11_bestRound 96 = .ok (.if_icmp .gt 9, 3) := by decide +kernel
theorem dX11_bestRound_99 : decode cX11_bestRound 99 = .ok (.iload 7, 2) := by decide +kernel
theorem dX11_bestRound_101 : decode cX11_bestRound 101 = .ok (.iload_n 2, 1) := by decide +kernel
theorem dX11_bestRound_102 : decode cX11_bestRound 102 = .ok (.if_icmp .ge 12, 3) := by decide +kernel
theorem dX11_bestRound_105 : decode cX11_bestRound 105 = .ok (.iload 6, 2) := by decide +kernel
theorem dX11_bestRound_107 : decode cX11_bestRound 107 = .ok (.istore_n 1, 1) := by decide +kernel
theorem dX11_bestRound_108 : decode cX11_bestRound 108 = .ok (.iload 7, 2) := by decide +kernel
theorem dX11_bestRound_110 : decode cX11_bestRound 110 = .ok (.istore_n 2, 1) := by decide +kernel
theorem dX11_bestRound_111 : decode cX11_bestRound 111 = .ok (.iload 5, 2) := by decide +kernel
theorem dX11_bestRound_113 : decode cX11_bestRound 113 = .ok (.istore_n 3, 1) := by decide +kernel
theorem dX11_bestRound_114 : decode cX11_bestRound 114 = .ok (.iinc 5 1, 3) := by decide +kernel
theorem dX11_bestRound_117 : decode cX11_bestRound 117 = .ok (.goto (-86), 3) := by decide +kernel
theorem dX11_bestRound_120 : decode cX11_bestRound 120 = .ok (.iload_n 3, 1) := by decide +kernel
theorem dX11_bestRound_121 : decode cX11_bestRound 121 = .ok (.ireturn, 1) := by decide +kernel
theorem dX11_boy_0 : decode cX11_boy 0 = .ok (.aload_n 0, 1) := by decide +kernel
theorem dX11_boy_1 : decode cX11_boy 1 = .ok (.iload_n 1, 1) := by decide +kernel
theorem dX11_boy_2 : decode cX11_boy 2 = .ok (.invokevirtual 139, 3) := by decide +kernel
theorem dX11_boy_5 : decode cX11_boy 5 = .ok (.ifCond .ne 5, 3) := by decide +kernel
theorem dX11_boy_8 : decode cX11_boy 8 = .ok (.iconst (-1), 1) := by decide +kernel
theorem dX11_boy_9 : decode cX11_boy 9 = .ok (.ireturn, 1) := by decide +kernel
theorem dX11_boy_10 : decode cX11_boy 10 = .ok (.iload_n 2, 1) := by decide +kernel
theorem dX11_boy_11 : decode cX11_boy 11 = .ok (.tableswitch 81 0 3 #[29, 42, 55, 68], 29) := by decide +kernel
theorem dX11_boy_40 : decode cX11_boy 40 = .ok (.aload_n 0, 1) := by decide +kernel
theorem dX11_boy_41 : decode cX11_boy 41 = .ok (.getfield 45, 3) := by decide +kernel
theorem dX11_boy_44 : decode cX11_boy 44 = .ok (.getfield 115, 3) := by decide +kernel
theorem dX11_boy_47 : decode cX11_boy 47 = .ok (.getfield 142, 3) := by decide +kernel
theorem dX11_boy_50 : decode cX11_boy 50 = .ok (.iload_n 1, 1) := by decide +kernel
theorem dX11_boy_51 : decode cX11_boy 51 = .ok (.iaload, 1) := by decide +kernel
theorem dX11_boy_52 : decode cX11_boy 52 = .ok (.ireturn, 1) := by decide +kernel
theorem dX11_boy_53 : decode cX11_boy 53 = .ok (.aload_n 0, 1) := by decide +kernel
theorem dX11_boy_54 : decode cX11_boy 54 = .ok (.getfield 45, 3) := by decide +kernel
theorem dX11_boy_57 : decode cX11_boy 57 = .ok (.getfield 115, 3) := by decide +kernel
theorem dX11_boy_60 : decode cX11_boy 60 = .ok (.getfield 146, 3) := by decide +kernel
theorem dX11_boy_63 : decode cX11_boy 63 = .ok (.iload_n 1, 1) := by decide +kernel
theorem dX11_boy_64 : decode cX11_boy 64 = .ok (.iaload, 1) := by decide +kernel
theorem dX11_boy_65 : decode cX11_boy 65 = .ok (.ireturn, 1) := by decide +kernel
theorem dX11_boy_66 : decode cX11_boy 66 = .ok (.aload_n 0, 1) := by decide +kernel
theorem dX11_boy_67 : decode cX11_boy 67 = .ok (.getfield 45, 3) := by decide +kernel
theorem dX11_boy_70 : decode cX11_boy 70 = .ok (.getfield 53, 3) := by decide +kernel
theorem dX11_boy_73 : decode cX11_boy 73 = .ok (.getfield 149, 3) := by decide +kernel
theorem dX11_boy_76 : decode cX11_boy 76 = .ok (.iload_n 1, 1) := by decide +kernel
theorem dX11_boy_77 : decode cX11_boy 77 = .ok (.iaload, 1) := by decide +kernel
theorem dX11_boy_78 : decode cX11_boy 78 = .ok (.ireturn, 1) := by decide +kernel
theorem dX11_boy_79 : decode cX11_boy 79 = .ok (.aload_n 0, 1) := by decide +kernel
theorem dX11_boy_80 : decode cX11_boy 80 = .ok (.getfield 45, 3) := by decide +kernel
theorem dX11_boy_83 : decode cX11_boy 83 = .ok (.getfield 115, 3) := by decide +kernel
theorem dX11_boy_86 : decode cX11_boy 86 = .ok (.getfield 152, 3) := by decide +kernel
theorem dX11_boy_89 : decode cX11_boy 89 = .ok (.iload_n 1, 1) := by decide +kernel
theorem dX11_boy_90 : decode cX11_boy 90 = .ok (.iaload, 1) := by decide +kernel
theorem dX11_boy_91 : decode cX11_boy 91 = .ok (.ireturn, 1) := by decide +kernel
theorem dX11_boy_92 : decode cX11_boy 92 = .ok (.iconst (-1), 1) := by decide +kernel
theorem dX11_boy_93 : decode cX11_boy 93 = .ok (.ireturn, 1) := by decide +kernel
theorem dX11_breaks_0 : decode cX11_breaks 0 = .ok (.aload_n 0, 1) := by decide +kernel
theorem dX11_breaks_1 : decode cX11_breaks 1 = .ok (.iload_n 1, 1) := by decide +kernel
theorem dX11_breaks_2 : decode cX11_breaks 2 = .ok (.invokevirtual 231, 3) := by decide +kernel
theorem dX11_breaks_5 : decode cX11_breaks 5 = .ok (.ifCond .ne 5, 3) := by decide +kernel
theorem dX11_breaks_8 : decode cX11_breaks 8 = .ok (.iconst (-1), 1) := by decide +kernel
theorem dX11_breaks_9 : decode cX11_breaks 9 = .ok (.ireturn, 1) := by decide +kernel
theorem dX11_breaks_10 : decode cX11_breaks 10 = .ok (.aload_n 0, 1) := by decide +kernel
theorem dX11_breaks_11 : decode cX11_breaks 11 = .ok (.getfield 60, 3) := by decide +kernel
theorem dX11_breaks_14 : decode cX11_breaks 14 = .ok (.aload_n 0, 1) := by decide +kernel
theorem dX11_breaks_15 : decode cX11_breaks 15 = .ok (.getfield 45, 3) := by decide +kernel
theorem dX11_breaks_18 : decode cX11_breaks 18 = .ok (.getfield 115, 3) := by decide +kernel
theorem dX11_breaks_21 : decode cX11_breaks 21 = .ok (.invokevirtual 201, 3) := by decide +kernel
theorem dX11_breaks_24 : decode cX11_breaks 24 = .ok (.aload_n 0, 1) := by decide +kernel
theorem dX11_breaks_25 : decode cX11_breaks 25 = .ok (.getfield 45, 3) := by decide +kernel
theorem dX11_breaks_28 : decode cX11_breaks 28 = .ok (.getfield 115, 3) := by decide +kernel
theorem dX11_breaks_31 : decode cX11_breaks 31 = .ok (.getfield 142, 3) := by decide +kernel
theorem dX11_breaks_34 : decode cX11_breaks 34 = .ok (.iload_n 1, 1) := by decide +kernel
theorem dX11_breaks_35 : decode cX11_breaks 35 = .ok (.iaload, 1) := by decide +kernel
theorem dX11_breaks_36 : decode cX11_breaks 36 = .ok (.istore_n 2, 1) := by decide +kernel
theorem dX11_breaks_37 : decode cX11_breaks 37 = .ok (.aload_n 0, 1) := by decide +kernel
theorem dX11_breaks_38 : decode cX11_breaks 38 = .ok (.getfield 45, 3) := by decide +kernel
theorem dX11_breaks_41 : decode cX11_breaks 41 = .ok (.getfield 115, 3) := by decide +kernel
theorem dX11_breaks_44 : decode cX11_breaks 44 = .ok (.getfield 142, 3) := by decide +kernel
theorem dX11_breaks_47 : decode cX11_breaks 47 = .ok (.iload_n 1, 1) := by decide +kernel
theorem dX11_breaks_48 : decode cX11_breaks 48 = .ok (.iconst 0, 1) := by decide +kernel
theorem dX11_breaks_49 : decode cX11_breaks 49 = .ok (.iastore, 1) := by decide +kernel
theorem dX11_breaks_50 : decode cX11_breaks 50 = .ok (.iload_n 2, 1) := by decide +kernel
theorem dX11_breaks_51 : decode cX11_breaks 51 = .ok (.ireturn, 1) := by decide +kernel
theorem dX11_canBeVisited_0 : decode cX11_canBeVisited 0 = .ok (.aload_n 0, 1) := by decide +kernel
theorem dX11_canBeVisited_1 : decode cX11_canBeVisited 1 = .ok (.getfield 45, 3) := by decide +kernel
theorem dX11_canBeVisited_4 : decode cX11_canBeVisited 4 = .ok (.getfield 115, 3) := by decide +kernel
theorem dX11_canBeVisited_7 : decode cX11_canBeVisited 7 = .ok (.astore_n 2, 1) := by decide +kernel
theorem dX11_canBeVisited_8 : decode cX11_canBeVisited 8 = .ok (.aload_n 0, 1) := by decide +kernel
theorem dX11_canBeVisited_9 : decode cX11_canBeVisited 9 = .ok (.aload_n 2, 1) := by decide +kernel
theorem dX11_canBeVisited_10 : decode cX11_canBeVisited 10 = .ok (.getfield 213, 3) := by decide +kernel
theorem dX11_canBeVisited_13 : decode cX11_canBeVisited 13 = .ok (.invokevirtual 139, 3) := by decide +kernel
theorem dX11_canBeVisited_16 : decode cX11_canBeVisited 16 = .ok (.ifCond .eq 10, 3) := by decide +kernel
theorem dX11_canBeVisited_19 : decode cX11_canBeVisited 19 = .ok (.aload_n 2, 1) := by decide +kernel
theorem dX11_canBeVisited_20 : decode cX11_canBeVisited 20 = .ok (.getfield 222, 3) := by decide +kernel
theorem dX11_canBeVisited_23 : decode cX11_canBeVisited 23 = .ok (.ifCond .eq 5, 3) := by decide +kernel
theorem dX11_canBeVisited_26 : decode cX11_canBeVisited 26 = .ok (.iconst 0, 1) := by decide +kernel
theorem dX11_canBeVisited_27 : decode cX11_canBeVisited 27 = .ok (.ireturn, 1) := by decide +kernel
theorem dX11_canBeVisited_28 : decode cX11_canBeVisited 28 = .ok (.iconst 2, 1) := by decide +kernel
theorem dX11_canBeVisited_29 : decode cX11_canBeVisited 29 = .ok (.aload_n 0, 1) := by decide +kernel
theorem dX11_canBeVisited_30 : decode cX11_canBeVisited 30 = .ok (.getfield 45, 3) := by decide +kernel
theorem dX11_canBeVisited_33 : decode cX11_canBeVisited 33 = .ok (.getfield 53, 3) := by decide +kernel
theorem dX11_canBeVisited_36 : decode cX11_canBeVisited 36 = .ok (.iconst 0, 1) := by decide +kernel
theorem dX11_canBeVisited_37 : decode cX11_canBeVisited 37 = .ok (.iload_n 1, 1) := by decide +kernel
theorem dX11_canBeVisited_38 : decode cX11_canBeVisited 38 = .ok (.iconst 1, 1) := by decide +kernel
theorem dX11_canBeVisited_39 : decode cX11_canBeVisited 39 = .ok (.iadd, 1) := by decide +kernel
theorem dX11_canBeVisited_40 : decode cX11_canBeVisited 40 = .ok (.invokevirtual 189, 3) := by decide +kernel
theorem dX11_canBeVisited_43 : decode cX11_canBeVisited 43 = .ok (.imul, 1) := by decide +kernel
theorem dX11_canBeVisited_44 : decode cX11_canBeVisited 44 = .ok (.aload_n 0, 1) := by decide +kernel
theorem dX11_canBeVisited_45 : decode cX11_canBeVisited 45 = .ok (.getfield 45, 3) := by decide +kernel
theorem dX11_canBeVisited_48 : decode cX11_canBeVisited 48 = .ok (.getfield 53, 3) := by decide +kernel
theorem dX11_canBeVisited_51 : decode cX11_canBeVisited 51 = .ok (.aload_n 2, 1) := by decide +kernel
theorem dX11_canBeVisited_52 : decode cX11_canBeVisited 52 = .ok (.getfield 198, 3) := by decide +kernel
theorem dX11_canBeVisited_55 : decode cX11_canBeVisited 55 = .ok (.invokevirtual 225, 3) := by decide +kernel
theorem dX11_canBeVisited_58 : decode cX11_canBeVisited 58 = .ok (.if_icmp .gt 7, 3) := by decide +kernel
theorem dX11_canBeVisited_61 : decode cX11_canBeVisited 61 = .ok (.iconst 1, 1) := by decide +kernel
theorem dX11_canBeVisited_62 : decode cX11_canBeVisited 62 = .ok (.goto 4, 3) := by decide +kernel
theorem dX11_canBeVisited_65 : decode cX11_canBeVisited 65 = .ok (.iconst 0, 1) := by decide +kernel
theorem dX11_canBeVisited_66 : decode cX11_canBeVisited 66 = .ok (.ireturn, 1) := by decide +kernel
theorem dX11_isSinging_0 : decode cX11_isSinging 0 = .ok (.aload_n 0, 1) := by decide +kernel
theorem dX11_isSinging_1 : decode cX11_isSinging 1 = .ok (.iload_n 1, 1) := by decide +kernel
theorem dX11_isSinging_2 : decode cX11_isSinging 2 = .ok (.invokevirtual 139, 3) := by decide +kernel
theorem dX11_isSinging_5 : decode cX11_isSinging 5 = .ok (.ifCond .eq 22, 3) := by decide +kernel
theorem dX11_isSinging_8 : decode cX11_isSinging 8 = .ok (.aload_n 0, 1) := by decide +kernel
theorem dX11_isSinging_9 : decode cX11_isSinging 9 = .ok (.getfield 45, 3) := by decide +kernel
theorem dX11_isSinging_12 : decode cX11_isSinging 12 = .ok (.getfield 115, 3) := by decide +kernel
theorem dX11_isSinging_15 : decode cX11_isSinging 15 = .ok (.getfield 142, 3) := by decide +kernel
theorem dX11_isSinging_18 : decode cX11_isSinging 18 = .ok (.iload_n 1, 1) := by decide +kernel
theorem dX11_isSinging_19 : decode cX11_isSinging 19 = .ok (.iaload, 1) := by decide +kernel
theorem dX11_isSinging_20 : decode cX11_isSinging 20 = .ok (.ifCond .le 7, 3) := by decide +kernel
theorem dX11_isSinging_23 : decode cX11_isSinging 23 = .ok (.iconst 1, 1) := by decide +kernel
theorem dX11_isSinging_24 : decode cX11_isSinging 24 = .ok (.goto 4, 3) := by decide +kernel
theorem dX11_isSinging_27 : decode cX11_isSinging 27 = .ok (.iconst 0, 1) := by decide +kernel
theorem dX11_isSinging_28 : decode cX11_isSinging 28 = .ok (.ireturn, 1) := by decide +kernel
theorem dX11_youngestCanon_0 : decode cX11_youngestCanon 0 = .ok (.iconst (-1), 1) := by decide +kernel
theorem dX11_youngestCanon_1 : decode cX11_youngestCanon 1 = .ok (.istore_n 1, 1) := by decide +kernel
theorem dX11_youngestCanon_2 : decode cX11_youngestCanon 2 = .ok (.bipush 100, 2) := by decide +kernel
theorem dX11_youngestCanon_4 : decode cX11_youngestCanon 4 = .ok (.istore_n 2, 1) := by decide +kernel
theorem dX11_youngestCanon_5 : decode cX11_youngestCanon 5 = .ok (.iconst 0, 1) := by decide +kernel
theorem dX11_youngestCanon_6 : decode cX11_youngestCanon 6 = .ok (.istore_n 3, 1) := by decide +kernel
theorem dX11_youngestCanon_7 : decode cX11_youngestCanon 7 = .ok (.iload_n 3, 1) := by decide +kernel
theorem dX11_youngestCanon_8 : decode cX11_youngestCanon 8 = .ok (.aload_n 0, 1) := by decide +kernel
theorem dX11_youngestCanon_9 : decode cX11_youngestCanon 9 = .ok (.getfield 45, 3) := by decide +kernel
theorem dX11_youngestCanon_12 : decode cX11_youngestCanon 12 = .ok (.getfield 53, 3) := by decide +kernel
theorem dX11_youngestCanon_15 : decode cX11_youngestCanon 15 = .ok (.getfield 311, 3) := by decide +kernel
theorem dX11_youngestCanon_18 : decode cX11_youngestCanon 18 = .ok (.if_icmp .ge 40, 3) := by decide +kernel
theorem dX11_youngestCanon_21 : decode cX11_youngestCanon 21 = .ok (.aload_n 0, 1) := by decide +kernel
theorem dX11_youngestCanon_22 : decode cX11_youngestCanon 22 = .ok (.getfield 45, 3) := by decide +kernel
theorem dX11_youngestCanon_25 : decode cX11_youngestCanon 25 = .ok (.getfield 115, 3) := by decide +kernel
theorem dX11_youngestCanon_28 : decode cX11_youngestCanon 28 = .ok (.getfield 161, 3) := by decide +kernel
theorem dX11_youngestCanon_31 : decode cX11_youngestCanon 31 = .ok (.iload_n 3, 1) := by decide +kernel
theorem dX11_youngestCanon_32 : decode cX11_youngestCanon 32 = .ok (.iaload, 1) := by decide +kernel
theorem dX11_youngestCanon_33 : decode cX11_youngestCanon 33 = .ok (.iload_n 2, 1) := by decide +kernel
theorem dX11_youngestCanon_34 : decode cX11_youngestCanon 34 = .ok (.if_icmp .ge 18, 3) := by decide +kernel
theorem dX11_youngestCanon_37 : decode cX11_youngestCanon 37 = .ok (.iload_n 3, 1) := by decide +kernel
theorem dX11_youngestCanon_38 : decode cX11_youngestCanon 38 = .ok (.istore_n 1, 1) := by decide +kernel
theorem dX11_youngestCanon_39 : decode cX11_youngestCanon 39 = .ok (.aload_n 0, 1) := by decide +kernel
theorem dX11_youngestCanon_40 : decode cX11_youngestCanon 40 = .ok (.getfield 45, 3) := by decide +kernel
theorem dX11_youngestCanon_43 : decode cX11_youngestCanon 43 = .ok (.getfield 115, 3) := by decide +kernel
theorem dX11_youngestCanon_46 : decode cX11_youngestCanon 46 = .ok (.getfield 161, 3) := by decide +kernel
theorem dX11_youngestCanon_49 : decode cX11_youngestCanon 49 = .ok (.iload_n 3, 1) := by decide +kernel
theorem dX11_youngestCanon_50 : decode cX11_youngestCanon 50 = .ok (.iaload, 1) := by decide +kernel
theorem dX11_youngestCanon_51 : decode cX11_youngestCanon 51 = .ok (.istore_n 2, 1) := by decide +kernel
theorem dX11_youngestCanon_52 : decode cX11_youngestCanon 52 = .ok (.iinc 3 1, 3) := by decide +kernel
theorem dX11_youngestCanon_55 : decode cX11_youngestCanon 55 = .ok (.goto (-48), 3) := by decide +kernel
theorem dX11_youngestCanon_58 : decode cX11_youngestCanon 58 = .ok (.iload_n 1, 1) := by decide +kernel
theorem dX11_youngestCanon_59 : decode cX11_youngestCanon 59 = .ok (.ireturn, 1) := by decide +kernel
theorem dX4_keep_0 : decode cX4_keep 0 = .ok (.aload_n 0, 1) := by decide +kernel
theorem dX4_keep_1 : decode cX4_keep 1 = .ok (.getfield 11, 3) := by decide +kernel
theorem dX4_keep_4 : decode cX4_keep 4 = .ok (.aload_n 0, 1) := by decide +kernel
theorem dX4_keep_5 : decode cX4_keep 5 = .ok (.getfield 16, 3) := by decide +kernel
theorem dX4_keep_8 : decode cX4_keep 8 = .ok (.aaload, 1) := by decide +kernel
theorem dX4_keep_9 : decode cX4_keep 9 = .ok (.aload_n 1, 1) := by decide +kernel
theorem dX4_keep_10 : decode cX4_keep 10 = .ok (.invokevirtual 20, 3) := by decide +kernel
theorem dX4_keep_13 : decode cX4_keep 13 = .ok (.aload_n 0, 1) := by decide +kernel
theorem dX4_keep_14 : decode cX4_keep 14 = .ok (.aload_n 0, 1) := by decide +kernel
theorem dX4_keep_15 : decode cX4_keep 15 = .ok (.getfield 16, 3) := by decide +kernel
theorem dX4_keep_18 : decode cX4_keep 18 = .ok (.iconst 1, 1) := by decide +kernel
theorem dX4_keep_19 : decode cX4_keep 19 = .ok (.iadd, 1) := by decide +kernel
theorem dX4_keep_20 : decode cX4_keep 20 = .ok (.bipush 20, 2) := by decide +kernel
theorem dX4_keep_22 : decode cX4_keep 22 = .ok (.irem, 1) := by decide +kernel
theorem dX4_keep_23 : decode cX4_keep 23 = .ok (.putfield 16, 3) := by decide +kernel
theorem dX4_keep_26 : decode cX4_keep 26 = .ok (.aload_n 0, 1) := by decide +kernel
theorem dX4_keep_27 : decode cX4_keep 27 = .ok (.bipush 20, 2) := by decide +kernel
theorem dX4_keep_29 : decode cX4_keep 29 = .ok (.aload_n 0, 1) := by decide +kernel
theorem dX4_keep_30 : decode cX4_keep 30 = .ok (.getfield 24, 3) := by decide +kernel
theorem dX4_keep_33 : decode cX4_keep 33 = .ok (.iconst 1, 1) := by decide +kernel
theorem dX4_keep_34 : decode cX4_keep 34 = .ok (.iadd, 1) := by decide +kernel
theorem dX4_keep_35 : decode cX4_keep 35 = .ok (.invokestatic 27, 3) := by decide +kernel
theorem dX4_keep_38 : decode cX4_keep 38 = .ok (.putfield 24, 3) := by decide +kernel
theorem dX4_keep_41 : decode cX4_keep 41 = .ok (.return_, 1) := by decide +kernel
theorem dX8_deathDay_0 : decode cX8_deathDay 0 = .ok (.aload_n 0, 1) := by decide +kernel
theorem dX8_deathDay_1 : decode cX8_deathDay 1 = .ok (.getfield 37, 3) := by decide +kernel
theorem dX8_deathDay_4 : decode cX8_deathDay 4 = .ok (.aload_n 0, 1) := by decide +kernel
theorem dX8_deathDay_5 : decode cX8_deathDay 5 = .ok (.getfield 37, 3) := by decide +kernel
theorem dX8_deathDay_8 : decode cX8_deathDay 8 = .ok (.bipush 10, 2) := by decide +kernel
theorem dX8_deathDay_10 : decode cX8_deathDay 10 = .ok (.irem, 1) := by decide +kernel
theorem dX8_deathDay_11 : decode cX8_deathDay 11 = .ok (.isub, 1) := by decide +kernel
theorem dX8_deathDay_12 : decode cX8_deathDay 12 = .ok (.bipush 9, 2) := by decide +kernel
theorem dX8_deathDay_14 : decode cX8_deathDay 14 = .ok (.iadd, 1) := by decide +kernel
theorem dX8_deathDay_15 : decode cX8_deathDay 15 = .ok (.istore_n 2, 1) := by decide +kernel
theorem dX8_deathDay_16 : decode cX8_deathDay 16 = .ok (.iload_n 2, 1) := by decide +kernel
theorem dX8_deathDay_17 : decode cX8_deathDay 17 = .ok (.bipush 10, 2) := by decide +kernel
theorem dX8_deathDay_19 : decode cX8_deathDay 19 = .ok (.bipush 99, 2) := by decide +kernel
theorem dX8_deathDay_21 : decode cX8_deathDay 21 = .ok (.aload_n 0, 1) := by decide +kernel
theorem dX8_deathDay_22 : decode cX8_deathDay 22 = .ok (.getfield 28, 3) := by decide +kernel
theorem dX8_deathDay_25 : decode cX8_deathDay 25 = .ok (.iload_n 1, 1) := by decide +kernel
theorem dX8_deathDay_26 : decode cX8_deathDay 26 = .ok (.iaload, 1) := by decide +kernel
theorem dX8_deathDay_27 : decode cX8_deathDay 27 = .ok (.isub, 1) := by decide +kernel
theorem dX8_deathDay_28 : decode cX8_deathDay 28 = .ok (.imul, 1) := by decide +kernel
theorem dX8_deathDay_29 : decode cX8_deathDay 29 = .ok (.iadd, 1) := by decide +kernel
theorem dX8_deathDay_30 : decode cX8_deathDay 30 = .ok (.ireturn, 1) := by decide +kernel
theorem dX8_laidBy_0 : decode cX8_laidBy 0 = .ok (.iconst 0, 1) := by decide +kernel
theorem dX8_laidBy_1 : decode cX8_laidBy 1 = .ok (.istore_n 2, 1) := by decide +kernel
theorem dX8_laidBy_2 : decode cX8_laidBy 2 = .ok (.iconst 0, 1) := by decide +kernel
theorem dX8_laidBy_3 : decode cX8_laidBy 3 = .ok (.istore_n 3, 1) := by decide +kernel
theorem dX8_laidBy_4 : decode cX8_laidBy 4 = .ok (.iload_n 3, 1) := by decide +kernel
theorem dX8_laidBy_5 : decode cX8_laidBy 5 = .ok (.bipush 6, 2) := by decide +kernel
theorem dX8_laidBy_7 : decode cX8_laidBy 7 = .ok (.if_icmp .ge 27, 3) := by decide +kernel
theorem dX8_laidBy_10 : decode cX8_laidBy 10 = .ok (.iload_n 1, 1) := by decide +kernel
theorem dX8_laidBy_11 : decode cX8_laidBy 11 = .ok (.iload_n 3, 1) := by decide +kernel
theorem dX8_laidBy_12 : decode cX8_laidBy 12 = .ok (.ishr, 1) := by decide +kernel
theorem dX8_laidBy_13 : decode cX8_laidBy 13 = .ok (.iconst 1, 1) := by decide +kernel
theorem dX8_laidBy_14 : decode cX8_laidBy 14 = .ok (.iand, 1) := by decide +kernel
theorem dX8_laidBy_15 : decode cX8_laidBy 15 = .ok (.iconst 1, 1) := by decide +kernel
theorem dX8_laidBy_16 : decode cX8_laidBy 16 = .ok (.if_icmp .ne 12, 3) := by decide +kernel
theorem dX8_laidBy_19 : decode cX8_laidBy 19 = .ok (.iload_n 2, 1) := by decide +kernel
theorem dX8_laidBy_20 : decode cX8_laidBy 20 = .ok (.aload_n 0, 1) := by decide +kernel
theorem dX8_laidBy_21 : decode cX8_laidBy 21 = .ok (.getfield 34, 3) := by decide +kernel
theorem dX8_laidBy_24 : decode cX8_laidBy 24 = .ok (.iload_n 3, 1) := by decide +kernel
theorem dX8_laidBy_25 : decode cX8_laidBy 25 = .ok (.iaload, 1) := by decide +kernel
theorem dX8_laidBy_26 : decode cX8_laidBy 26 = .ok (.iadd, 1) := by decide +kernel
theorem dX8_laidBy_27 : decode cX8_laidBy 27 = .ok (.istore_n 2, 1) := by decide +kernel
theorem dX8_laidBy_28 : decode cX8_laidBy 28 = .ok (.iinc 3 1, 3) := by decide +kernel
theorem dX8_laidBy_31 : decode cX8_laidBy 31 = .ok (.goto (-27), 3) := by decide +kernel
theorem dX8_laidBy_34 : decode cX8_laidBy 34 = .ok (.iload_n 2, 1) := by decide +kernel
theorem dX8_laidBy_35 : decode cX8_laidBy 35 = .ok (.ireturn, 1) := by decide +kernel
theorem li_20 : (20 : Int32).toInt = 20 := by decide
set_option maxHeartbeats 4000000 in
set_option maxRecDepth 100000 in
theorem t_X11_youngestCanon (l : Launch) (dC : Nat → ClassId) (dI : Nat → Nat → Nat) (tys : List (ClassId × FieldType)) (κ : tK) (B : Nat) (ws : va_W) (hT : Ty κ tys B ws) (a0 : Nat) (k_a0 : κ a0 = some 11) (sz : Nat) : Met l yX11_youngestCanon (ws_u yX11_youngestCanon cX11_youngestCanon 4 (some .int)) ({ frames := 0, cells := 0, slots := 0, locals := 0 }) (va_Pc [.ref a0] (cPre (dC, dI) tys ws sz)) (va_Qi (fun (r : Int32) (w : va_W) => (-1) ≤ r.toInt ∧ r.toInt ≤ 3 ∧ Ty κ tys B w ∧ Sm [] [] κ ws w) (fun w t => cPost (dC, dI) tys w (va_A ws sz) t) (va_A ws sz)) 0 0 (va_A ws sz) := by
  refine Met.ofW (cc := cX11_youngestCanon) (maxL := 4) (ret := (some .int)) (by decide) rfl ?_
  intro p e s m args below meth c s₁ B0 hml hv
  obtain ⟨rfl, hsz, hP, hK, hD0, hE⟩ := hv
  have hx := B0.exec
  have hb := B0.bytes
  have hr := B0.returns
  have hts0 := atoms_spec (ws := ws_u yX11_youngestCanon cX11_youngestCanon 4 (some .int)) B0.pre
  have hts : ∀ w ∈ gT, w.before _ s = true := fun w h => hts0 w (List.mem_cons_of_mem _ h)
  have hown : s.vm.findClass RX11 = some m.cls := findClass_of_methodNamed B0.named
  have hlocks := B0.notSynchronized
  subst hsz
  have hD := hD0.self (sz := s.heap.size)
  generalize hAe : va_A ws s.heap.size = A at hD ⊢
  have hA : ∀ q : Nat, s.heap.size ≤ q → A q := fun q h => by rw [← hAe]; exact Or.inr h
  have hw : tW (dC, dI) tys κ B A s ws s.heap [] := ⟨hK, hP, hD, va_S.rf, hT⟩
  have hM : Sm [] [] κ ws ws := Sm.rf
  clear hP hK hD hD0 hts0
  have hl := lv_entry ([.ref a0]) (n := 4) (Nat.le_of_ble_eq_true rfl)
  rw [lg_entry_eq]
  generalize (lg_sl ([.ref a0]) ++ List.replicate (4 - (lg_sl ([.ref a0])).length) Slot.unset).toArray = ls at hl ⊢
  have hl : lv_has ls 4 [(0, .ref a0)] := hl
  refine t_start (fun QQ hQ => ?_)
  refine lv_iconst (v := (-1)) hx hb dX11_youngestCanon_0 (by decide) ?_
  refine lv_istore_n (lv' := [(1, .int (-1)), (0, .ref a0)]) hx hb dX11_youngestCanon_1 rfl hl (by decide) rfl (fun ls hl => ?_)
  refine lv_bipush (v := 100) hx hb dX11_youngestCanon_2 (by decide) ?_
  refine lv_istore_n (lv' := [(2, .int 100), (1, .int (-1)), (0, .ref a0)]) hx hb dX11_youngestCanon_4 rfl hl (by decide) rfl (fun ls hl => ?_)
  refine lv_iconst (v := 0) hx hb dX11_youngestCanon_5 (by decide) ?_
  refine lv_istore_n (lv' := [(3, .int 0), (2, .int 100), (1, .int (-1)), (0, .ref a0)]) hx hb dX11_youngestCanon_6 rfl hl (by decide) rfl (fun ls hl => ?_)
  have J7 : ∀ (n : Nat) (H : Heap) (locs : List Loc) (ls : Array Slot), (∃ (w7 : va_W) (p7_l1 : Int32) (p7_l2 : Int32) (p7_l3 : Int32), tW (dC, dI) tys κ B A s w7 H locs ∧ Sm [] [] κ ws w7 ∧ (-1) ≤ p7_l1.toInt ∧ p7_l1.toInt ≤ 3 ∧ (-2147483648) ≤ p7_l2.toInt ∧ p7_l2.toInt ≤ 2147483647 ∧ 0 ≤ p7_l3.toInt ∧ p7_l3.toInt ≤ 4 ∧ lv_has ls 4 [(0, .ref a0), (1, .int p7_l1), (2, .int p7_l2), (3, .int p7_l3)] ∧ (4 - p7_l3.toInt).toNat = n) → W p l e (headSpec (ws_u yX11_youngestCanon cX11_youngestCanon 4 (some .int)) ({ frames := 0, cells := 0, slots := 0, locals := 0 })).room s m ([.ref a0] : List Value).toArray below meth c H locs 0 0 QQ (F0 m 7 ls []) := by
    refine loopT _ ?_
    intro n_7 H locs ls hI ih_7
    obtain ⟨w7, p7_l1, p7_l2, p7_l3, hw, hM, l_p7_l1, h_p7_l1, l_p7_l2, h_p7_l2, l_p7_l3, h_p7_l3, hl, hn_7⟩ := hI
    refine lv_iload_n hx hb dX11_youngestCanon_7 rfl (lv_at hl 3 rfl) ?_
    refine lv_aload_n hx hb dX11_youngestCanon_8 rfl (lv_at hl 0 rfl) ?_
    refine t_getr (k1 := 10) (ci := 11) (C := RX11) (T := TX11) (N := 12) hx hb hts iX11 hown hw k_a0 rfl rfl rfl 5 (by decide) (hts _ tw_428) (fun _ h9 => h9) dX11_youngestCanon_9 rfl (fun v9 k_v9 f_a0_X11_5 => ?_)
    refine t_getr (k1 := 0) (ci := 10) (C := RX10) (T := TX10) (N := 8) hx hb hts iX10 hown hw k_v9 rfl rfl rfl 0 (by decide) (hts _ tw_282) (fun _ h9 => h9) dX11_youngestCanon_12 rfl (fun v12 k_v12 f_v9_X10_0 => ?_)
    refine t_geti (ci := 0) (C := RX0) (T := TX0) (N := 16) hx hb hts iX0 hown hw k_v12 rfl rfl rfl 4 (by decide) (hts _ tw_85) (fun _ h9 => h9) dX11_youngestCanon_15 rfl (fun v15 l_v15 h_v15 f_v12_X0_4 => ?_)
    have l_v15 : 0 ≤ v15.toInt := l_v15
    have h_v15 : v15.toInt ≤ 4 := h_v15
    refine lv_icmp_ge (tgt := 58) hx hb dX11_youngestCanon_18 (by decide) (fun c_18 => ?_) (fun c_18 => ?_)
    · simp only [fa_lt, fa_le, fa_eq] at c_18
      refine lv_iload_n hx hb dX11_youngestCanon_58 rfl (lv_at hl 1 rfl) ?_
      rw [hQ]
      refine W.widen (k := 0) (n := 0) (Nat.le_refl _) (Nat.le_refl _) ?_
      exact W.iret (v := p7_l1) hx hb hr (fun t ht hW => ⟨⟨p7_l1, w7, rfl, ⟨(by omega), (by omega), hw.2.2.2.2, hM⟩, by rw [ht]; exact hw.2.1, va_K.moved hW.alike hw.1, hw.2.2.1⟩, hw.2.2.2.1.F ht⟩) hw.2.2.2.1.2.2 dX11_youngestCanon_59
    · simp only [fa_lt, fa_le, fa_eq] at c_18
      refine lv_aload_n hx hb dX11_youngestCanon_21 rfl (lv_at hl 0 rfl) ?_
      refine t_getk (ci := 11) (C := RX11) (T := TX11) (N := 12) hx hb hts iX11 hown hw rfl 5 (by decide) (hts _ tw_428) (fun _ h9 => h9) dX11_youngestCanon_22 f_a0_X11_5 ?_
      refine t_getr (k1 := 8) (ci := 10) (C := RX10) (T := TX10) (N := 8) hx hb hts iX10 hown hw k_v9 rfl rfl rfl 1 (by decide) (hts _ tw_285) (fun _ h9 => h9) dX11_youngestCanon_25 rfl (fun v25 k_v25 f_v9_X10_1 => ?_)
      refine t_getr (k1 := 46) (ci := 8) (C := RX8) (T := TX8) (N := 13) hx hb hts iX8 hown hw k_v25 rfl rfl rfl 10 (by decide) (hts _ tw_249) (fun _ h9 => h9) dX11_youngestCanon_28 rfl (fun v28 k_v28 f_v25_X8_10 => ?_)
      refine lv_iload_n hx hb dX11_youngestCanon_31 rfl (lv_at hl 3 rfl) ?_
      refine t_iald hx hb hw k_v28 rfl rfl (by omega) (show p7_l3.toInt < 4 by omega) dX11_youngestCanon_32 (fun v32 r_v32 s_v32 q_v32 => ?_)
      have l_v32 := i32_lo v32
      have h_v32 := i32_hi v32
      refine lv_iload_n hx hb dX11_youngestCanon_33 rfl (lv_at hl 2 rfl) ?_
      have J52 : ∀ (H : Heap) (locs : List Loc) (ls : Array Slot) (w52 : va_W) (p52_l1 : Int32) (p52_l2 : Int32), tW (dC, dI) tys κ B A s w52 H locs → Sm [] [] κ ws w52 → (-1) ≤ p52_l1.toInt → p52_l1.toInt ≤ 3 → (-2147483648) ≤ p52_l2.toInt → p52_l2.toInt ≤ 2147483647 → fld w52 a0 11 5 (.ref v9) → fld w52 v12 0 4 (.int v15) → fld w52 v25 8 10 (.ref v28) → fld w52 v9 10 0 (.ref v12) → fld w52 v9 10 1 (.ref v25) → lv_has ls 4 [(0, .ref a0), (1, .int p52_l1), (2, .int p52_l2), (3, .int p7_l3)] → W p l e (headSpec (ws_u yX11_youngestCanon cX11_youngestCanon 4 (some .int)) ({ frames := 0, cells := 0, slots := 0, locals := 0 })).room s m ([.ref a0] : List Value).toArray below meth c H locs 0 0 QQ (F0 m 52 ls []) := by
        intro H locs ls w52 p52_l1 p52_l2 hw hM l_p52_l1 h_p52_l1 l_p52_l2 h_p52_l2 f_a0_X11_5 f_v12_X0_4 f_v25_X8_10 f_v9_X10_0 f_v9_X10_1 hl
        obtain ⟨v52, e_v52⟩ : ∃ y : Int32, y = p7_l3 + 1 := ⟨_, rfl⟩
        refine lv_iinc (v := v52) (lv' := [(3, .int v52), (0, .ref a0), (1, .int p52_l1), (2, .int p52_l2)]) hx hb dX11_youngestCanon_52 hl (k := 3) rfl e_v52.symm (by decide) rfl (fun ls hl => ?_)
        have e_v52 : v52.toInt = p7_l3.toInt + 1 := ad_i e_v52 rfl li_1 (by omega) (by omega)
        refine lv_goto (tgt := 7) hx hb dX11_youngestCanon_55 (by decide) ?_
        exact ih_7 _ _ _ _ (by omega) ⟨w52, p52_l1, p52_l2, v52, hw, hM, (by omega), (by omega), (by omega), (by omega), (by omega), (by omega), (lv_sub hl [1, 2, 3, 0] rfl), rfl⟩
      refine lv_icmp_ge (tgt := 52) hx hb dX11_youngestCanon_34 (by decide) (fun c_34 => ?_) (fun c_34 => ?_)
      · simp only [fa_lt, fa_le, fa_eq] at c_34
        exact J52 _ _ _ w7 p7_l1 p7_l2 hw hM (by omega) (by omega) (by omega) (by omega) f_a0_X11_5 f_v12_X0_4 f_v25_X8_10 f_v9_X10_0 f_v9_X10_1 (lv_sub hl [0, 1, 2, 3] rfl)
      · simp only [fa_lt, fa_le, fa_eq] at c_34
        refine lv_iload_n hx hb dX11_youngestCanon_37 rfl (lv_at hl 3 rfl) ?_
        refine lv_istore_n (lv' := [(1, .int p7_l3), (0, .ref a0), (2, .int p7_l2), (3, .int p7_l3)]) hx hb dX11_youngestCanon_38 rfl hl (by decide) rfl (fun ls hl => ?_)
        refine lv_aload_n hx hb dX11_youngestCanon_39 rfl (lv_at hl 1 rfl) ?_
        refine t_getk (ci := 11) (C := RX11) (T := TX11) (N := 12) hx hb hts iX11 hown hw rfl 5 (by decide) (hts _ tw_428) (fun _ h9 => h9) dX11_youngestCanon_40 f_a0_X11_5 ?_
        refine t_getk (ci := 10) (C := RX10) (T := TX10) (N := 8) hx hb hts iX10 hown hw rfl 1 (by decide) (hts _ tw_285) (fun _ h9 => h9) dX11_youngestCanon_43 f_v9_X10_1 ?_
        refine t_getk (ci := 8) (C := RX8) (T := TX8) (N := 13) hx hb hts iX8 hown hw rfl 10 (by decide) (hts _ tw_249) (fun _ h9 => h9) dX11_youngestCanon_46 f_v25_X8_10 ?_
        refine lv_iload_n hx hb dX11_youngestCanon_49 rfl (lv_at hl 3 rfl) ?_
        refine t_iald hx hb hw k_v28 rfl rfl (by omega) (show p7_l3.toInt < 4 by omega) dX11_youngestCanon_50 (fun v50 r_v50 s_v50 q_v50 => ?_)
        have l_v50 := i32_lo v50
        have h_v50 := i32_hi v50
        refine lv_istore_n (lv' := [(2, .int v50), (1, .int p7_l3), (0, .ref a0), (3, .int p7_l3)]) hx hb dX11_youngestCanon_51 rfl hl (by decide) rfl (fun ls hl => ?_)
        exact J52 _ _ _ w7 p7_l3 v50 hw hM (by omega) (by omega) (by omega) (by omega) f_a0_X11_5 f_v12_X0_4 f_v25_X8_10 f_v9_X10_0 f_v9_X10_1 (lv_sub hl [2, 1, 0, 3] rfl)
  exact J7 _ _ _ _ ⟨ws, (-1), 100, 0, hw, hM, (by decide), (by decide), (by decide), (by decide), (by decide), (by decide), (lv_sub hl [3, 2, 1, 0] rfl), rfl⟩
set_option maxHeartbeats 4000000 in
set_option maxRecDepth 100000 in
theorem t_X8_deathDay (l : Launch) (dC : Nat → ClassId) (dI : Nat → Nat → Nat) (tys : List (ClassId × FieldType)) (κ : tK) (B : Nat) (ws : va_W) (hT : Ty κ tys B ws) (a0 : Nat) (k_a0 : κ a0 = some 8) (a1 : Int32) (l_a1 : 0 ≤ a1.toInt) (h_a1 : a1.toInt ≤ 3) (sz : Nat) : Met l yX8_deathDay (ws_u yX8_deathDay cX8_deathDay 3 (some .int)) ({ frames := 0, cells := 0, slots := 0, locals := 0 }) (va_Pc [.ref a0, .int a1] (cPre (dC, dI) tys ws sz)) (va_Qi (fun (r : Int32) (w : va_W) => Ty κ tys B w ∧ Sm [] [] κ ws w) (fun w t => cPost (dC, dI) tys w (va_A ws sz) t) (va_A ws sz)) 0 0 (va_A ws sz) := by
  refine Met.ofW (cc := cX8_deathDay) (maxL := 3) (ret := (some .int)) (by decide) rfl ?_
  intro p e s m args below meth c s₁ B0 hml hv
  obtain ⟨rfl, hsz, hP, hK, hD0, hE⟩ := hv
  have hx := B0.exec
  have hb := B0.bytes
  have hr := B0.returns
  have hts0 := atoms_spec (ws := ws_u yX8_deathDay cX8_deathDay 3 (some .int)) B0.pre
  have hts : ∀ w ∈ gT, w.before _ s = true := fun w h => hts0 w (List.mem_cons_of_mem _ h)
  have hown : s.vm.findClass RX8 = some m.cls := findClass_of_methodNamed B0.named
  have hlocks := B0.notSynchronized
  subst hsz
  have hD := hD0.self (sz := s.heap.size)
  generalize hAe : va_A ws s.heap.size = A at hD ⊢
  have hA : ∀ q : Nat, s.heap.size ≤ q → A q := fun q h => by rw [← hAe]; exact Or.inr h
  have hw : tW (dC, dI) tys κ B A s ws s.heap [] := ⟨hK, hP, hD, va_S.rf, hT⟩
  have hM : Sm [] [] κ ws ws := Sm.rf
  clear hP hK hD hD0 hts0
  have hl := lv_entry ([.ref a0, .int a1]) (n := 3) (Nat.le_of_ble_eq_true rfl)
  rw [lg_entry_eq]
  generalize (lg_sl ([.ref a0, .int a1]) ++ List.replicate (3 - (lg_sl ([.ref a0, .int a1])).length) Slot.unset).toArray = ls at hl ⊢
  have hl : lv_has ls 3 [(0, .ref a0), (1, .int a1)] := hl
  refine t_start (fun QQ hQ => ?_)
  refine lv_aload_n hx hb dX8_deathDay_0 rfl (lv_at hl 0 rfl) ?_
  refine t_geti (ci := 8) (C := RX8) (T := TX8) (N := 13) hx hb hts iX8 hown hw k_a0 rfl rfl rfl 0 (by decide) (hts _ tw_220) (fun _ h9 => h9) dX8_deathDay_1 rfl (fun v1 l_v1 h_v1 f_a0_X8_0 => ?_)
  have l_v1 : (-2147483648) ≤ v1.toInt := l_v1
  have h_v1 : v1.toInt ≤ 2147483647 := h_v1
  refine lv_aload_n hx hb dX8_deathDay_4 rfl (lv_at hl 0 rfl) ?_
  refine t_getk (ci := 8) (C := RX8) (T := TX8) (N := 13) hx hb hts iX8 hown hw rfl 0 (by decide) (hts _ tw_220) (fun _ h9 => h9) dX8_deathDay_5 f_a0_X8_0 ?_
  refine lv_bipush (v := 10) hx hb dX8_deathDay_8 (by decide) ?_
  refine lv_irem hx hb dX8_deathDay_10 (ne_i li_10 (by decide)) ?_
  refine lv_topi (fun v10 e_v10 => ?_)
  have l_v10 := i32_lo v10
  have h_v10 := i32_hi v10
  refine lv_isub hx hb dX8_deathDay_11 ?_
  refine lv_topi (fun v11 e_v11 => ?_)
  have l_v11 := i32_lo v11
  have h_v11 := i32_hi v11
  refine lv_bipush (v := 9) hx hb dX8_deathDay_12 (by decide) ?_
  refine lv_iadd hx hb dX8_deathDay_14 ?_
  refine lv_topi (fun v14 e_v14 => ?_)
  have l_v14 := i32_lo v14
  have h_v14 := i32_hi v14
  refine lv_istore_n (lv' := [(2, .int v14), (0, .ref a0), (1, .int a1)]) hx hb dX8_deathDay_15 rfl hl (by decide) rfl (fun ls hl => ?_)
  refine lv_iload_n hx hb dX8_deathDay_16 rfl (lv_at hl 0 rfl) ?_
  refine lv_bipush (v := 10) hx hb dX8_deathDay_17 (by decide) ?_
  refine lv_bipush (v := 99) hx hb dX8_deathDay_19 (by decide) ?_
  refine lv_aload_n hx hb dX8_deathDay_21 rfl (lv_at hl 1 rfl) ?_
  refine t_getr (k1 := 46) (ci := 8) (C := RX8) (T := TX8) (N := 13) hx hb hts iX8 hown hw k_a0 rfl rfl rfl 10 (by decide) (hts _ tw_248) (fun _ h9 => h9) dX8_deathDay_22 rfl (fun v22 k_v22 f_a0_X8_10 => ?_)
  refine lv_iload_n hx hb dX8_deathDay_25 rfl (lv_at hl 2 rfl) ?_
  refine t_iald hx hb hw k_v22 rfl rfl (by omega) (show a1.toInt < 4 by omega) dX8_deathDay_26 (fun v26 r_v26 s_v26 q_v26 => ?_)
  have l_v26 := i32_lo v26
  have h_v26 := i32_hi v26
  refine lv_isub hx hb dX8_deathDay_27 ?_
  refine lv_topi (fun v27 e_v27 => ?_)
  have l_v27 := i32_lo v27
  have h_v27 := i32_hi v27
  refine lv_imul hx hb dX8_deathDay_28 ?_
  refine lv_topi (fun v28 e_v28 => ?_)
  have l_v28 := i32_lo v28
  have h_v28 := i32_hi v28
  refine lv_iadd hx hb dX8_deathDay_29 ?_
  refine lv_topi (fun v29 e_v29 => ?_)
  have l_v29 := i32_lo v29
  have h_v29 := i32_hi v29
  rw [hQ]
  refine W.widen (k := 0) (n := 0) (Nat.le_refl _) (Nat.le_refl _) ?_
  exact W.iret (v := v29) hx hb hr (fun t ht hW => ⟨⟨v29, ws, rfl, ⟨hw.2.2.2.2, hM⟩, by rw [ht]; exact hw.2.1, va_K.moved hW.alike hw.1, hw.2.2.1⟩, hw.2.2.2.1.F ht⟩) hw.2.2.2.1.2.2 dX8_deathDay_30
set_option maxHeartbeats 4000000 in
set_option maxRecDepth 100000 in
theorem t_X11_best (l : Launch) (dC : Nat → ClassId) (dI : Nat → Nat → Nat) (tys : List (ClassId × FieldType)) (κ : tK) (B : Nat) (ws : va_W) (hT : Ty κ tys B ws) (a0 : Nat) (k_a0 : κ a0 = some 11) (a1 : Int32) (sz : Nat) : Met l yX11_best (ws_u yX11_best cX11_best 3 (some .int)) ({ frames := 1, cells := 0, slots := 0, locals := 23 }) (va_Pc [.ref a0, .int a1] (cPre (dC, dI) tys ws sz)) (va_Qi (fun (r : Int32) (w : va_W) => Ty κ tys B w ∧ Sm [] [] κ ws w) (fun w t => cPost (dC, dI) tys w (va_A ws sz) t) (va_A ws sz)) 0 0 (va_A ws sz) := by
  refine Met.ofW (cc := cX11_best) (maxL := 3) (ret := (some .int)) (by decide) rfl ?_
  intro p e s m args below meth c s₁ B0 hml hv
  obtain ⟨rfl, hsz, hP, hK, hD0, hE⟩ := hv
  have hx := B0.exec
  have hb := B0.bytes
  have hr := B0.returns
  have hts0 := atoms_spec (ws := ws_u yX11_best cX11_best 3 (some .int)) B0.pre
  have hts : ∀ w ∈ gT, w.before _ s = true := fun w h => hts0 w (List.mem_cons_of_mem _ h)
  have hown : s.vm.findClass RX11 = some m.cls := findClass_of_methodNamed B0.named
  have hlocks := B0.notSynchronized
  subst hsz
  have hD := hD0.self (sz := s.heap.size)
  generalize hAe : va_A ws s.heap.size = A at hD ⊢
  have hA : ∀ q : Nat, s.heap.size ≤ q → A q := fun q h => by rw [← hAe]; exact Or.inr h
  have hw : tW (dC, dI) tys κ B A s ws s.heap [] := ⟨hK, hP, hD, va_S.rf, hT⟩
  have hM : Sm [] [] κ ws ws := Sm.rf
  clear hP hK hD hD0 hts0
  have l_a1 := i32_lo a1
  have h_a1 := i32_hi a1
  have hl := lv_entry ([.ref a0, .int a1]) (n := 3) (Nat.le_of_ble_eq_true rfl)
  rw [lg_entry_eq]
  generalize (lg_sl ([.ref a0, .int a1]) ++ List.replicate (3 - (lg_sl ([.ref a0, .int a1])).length) Slot.unset).toArray = ls at hl ⊢
  have hl : lv_has ls 3 [(0, .ref a0), (1, .int a1)] := hl
  refine t_start (fun QQ hQ => ?_)
  refine lv_aload_n hx hb dX11_best_0 rfl (lv_at hl 0 rfl) ?_
  refine t_getr (k1 := 10) (ci := 11) (C := RX11) (T := TX11) (N := 12) hx hb hts iX11 hown hw k_a0 rfl rfl rfl 5 (by decide) (hts _ tw_428) (fun _ h9 => h9) dX11_best_1 rfl (fun v1 k_v1 f_a0_X11_5 => ?_)
  refine t_getr (k1 := 0) (ci := 10) (C := RX10) (T := TX10) (N := 8) hx hb hts iX10 hown hw k_v1 rfl rfl rfl 0 (by decide) (hts _ tw_282) (fun _ h9 => h9) dX11_best_4 rfl (fun v4 k_v4 f_v1_X10_0 => ?_)
  refine t_geti (ci := 0) (C := RX0) (T := TX0) (N := 16) hx hb hts iX0 hown hw k_v4 rfl rfl rfl 0 (by decide) (hts _ tw_69) (fun _ h9 => h9) dX11_best_7 rfl (fun v7 l_v7 h_v7 f_v4_X0_0 => ?_)
  have l_v7 : 0 ≤ v7.toInt := l_v7
  have h_v7 : v7.toInt ≤ 1 := h_v7
  refine lv_if_eq (tgt := 22) hx hb dX11_best_10 (by decide) (fun c_10 => ?_) (fun c_10 => ?_)
  · simp only [fa_lt, fa_le, fa_eq, li_0] at c_10
    refine lv_iconst (v := (-1)) hx hb dX11_best_22 (by decide) ?_
    rw [hQ]
    refine W.widen (k := 0) (n := 0) (Nat.le_refl _) (Nat.le_refl _) ?_
    exact W.iret (v := (-1)) hx hb hr (fun t ht hW => ⟨⟨(-1), ws, rfl, ⟨hw.2.2.2.2, hM⟩, by rw [ht]; exact hw.2.1, va_K.moved hW.alike hw.1, hw.2.2.1⟩, hw.2.2.2.1.F ht⟩) hw.2.2.2.1.2.2 dX11_best_23
  · simp only [fa_lt, fa_le, fa_eq, li_0] at c_10
    refine lv_iload_n hx hb dX11_best_13 rfl (lv_at hl 1 rfl) ?_
    refine lv_if_lt (tgt := 22) hx hb dX11_best_14 (by decide) (fun c_14 => ?_) (fun c_14 => ?_)
    · simp only [fa_lt, fa_le, fa_eq, li_0] at c_14
      refine lv_iconst (v := (-1)) hx hb dX11_best_22 (by decide) ?_
      rw [hQ]
      refine W.widen (k := 0) (n := 0) (Nat.le_refl _) (Nat.le_refl _) ?_
      exact W.iret (v := (-1)) hx hb hr (fun t ht hW => ⟨⟨(-1), ws, rfl, ⟨hw.2.2.2.2, hM⟩, by rw [ht]; exact hw.2.1, va_K.moved hW.alike hw.1, hw.2.2.1⟩, hw.2.2.2.1.F ht⟩) hw.2.2.2.1.2.2 dX11_best_23
    · simp only [fa_lt, fa_le, fa_eq, li_0] at c_14
      refine lv_iload_n hx hb dX11_best_17 rfl (lv_at hl 1 rfl) ?_
      refine lv_iconst (v := 1) hx hb dX11_best_18 (by decide) ?_
      refine lv_icmp_le (tgt := 24) hx hb dX11_best_19 (by decide) (fun c_19 => ?_) (fun c_19 => ?_)
      · simp only [fa_lt, fa_le, fa_eq, li_1] at c_19
        refine lv_aload_n hx hb dX11_best_24 rfl (lv_at hl 0 rfl) ?_
        refine t_calli (va_runV (As := []) (rest := []) ⟨hx, hb, hml, hown, hts⟩ (t_X11_youngestCanon l dC dI tys κ B ws hw.2.2.2.2 a0 k_a0 s.heap.size) (cwV 0 hts (gUV tw_1011 tw_1013 ts_2_8 tw_1 tw_1014) rfl rfl rfl (by decide +kernel) ⟨(Nat.le_of_ble_eq_true rfl), (Nat.le_of_ble_eq_true rfl)⟩) ⟨cPre.blind, t_recv hw (ci := 11) k_a0 rfl rfl, cPre.use hw.2.1 hw.1 hw.2.2.1 hE⟩ rfl rfl hl.1 rfl (lv_room (Nat.le_of_ble_eq_true rfl)) dX11_best_25 ⟨(Nat.le_of_ble_eq_true rfl), (Nat.le_of_ble_eq_true rfl)⟩) hw hA (fun _ _ h => h.2.2.1) (fun v25 w_1 H locs hp hw => ?_)
        obtain ⟨l_v25, h_v25, _, hm⟩ := hp
        have hM := hM.trans hm (by decide) (by decide)
        have f_a0_X11_5 := hm.1 _ _ _ _ f_a0_X11_5 (by decide)
        have f_v1_X10_0 := hm.1 _ _ _ _ f_v1_X10_0 (by decide)
        have f_v4_X0_0 := hm.1 _ _ _ _ f_v4_X0_0 (by decide)
        refine lv_istore_n (lv' := [(2, .int v25), (0, .ref a0), (1, .int a1)]) hx hb dX11_best_28 rfl hl (by decide) rfl (fun ls hl => ?_)
        refine lv_iload_n hx hb dX11_best_29 rfl (lv_at hl 0 rfl) ?_
        refine lv_iconst (v := (-1)) hx hb dX11_best_30 (by decide) ?_
        refine lv_icmp_ne (tgt := 37) hx hb dX11_best_31 (by decide) (fun c_31 => ?_) (fun c_31 => ?_)
        · simp only [fa_lt, fa_le, fa_eq, li_m1] at c_31
          refine lv_iload_n hx hb dX11_best_37 rfl (lv_at hl 2 rfl) ?_
          refine lv_if_ne (tgt := 45) hx hb dX11_best_38 (by decide) (fun c_38 => ?_) (fun c_38 => ?_)
          · simp only [fa_lt, fa_le, fa_eq, li_0] at c_38
            refine lv_aload_n hx hb dX11_best_45 rfl (lv_at hl 1 rfl) ?_
            refine t_getk (ci := 11) (C := RX11) (T := TX11) (N := 12) hx hb hts iX11 hown hw rfl 5 (by decide) (hts _ tw_428) (fun _ h9 => h9) dX11_best_46 f_a0_X11_5 ?_
            refine t_getr (k1 := 8) (ci := 10) (C := RX10) (T := TX10) (N := 8) hx hb hts iX10 hown hw k_v1 rfl rfl rfl 1 (by decide) (hts _ tw_285) (fun _ h9 => h9) dX11_best_49 rfl (fun v49 k_v49 f_v1_X10_1 => ?_)
            refine lv_iload_n hx hb dX11_best_52 rfl (lv_at hl 0 rfl) ?_
            refine t_calli (va_runV (As := [.int v25]) (rest := []) ⟨hx, hb, hml, hown, hts⟩ (t_X8_deathDay l dC dI tys κ B w_1 hw.2.2.2.2 v49 k_v49 v25 (by omega) (by omega) H.size) (cwV 1 hts (gUV tw_998 tw_999 tw_1000 tw_8 tw_1001) rfl rfl rfl (by decide +kernel) ⟨(Nat.le_of_ble_eq_true rfl), (Nat.le_of_ble_eq_true rfl)⟩) ⟨cPre.blind, t_recv hw (ci := 8) k_v49 rfl rfl, cPre.use hw.2.1 hw.1 hw.2.2.1 hE⟩ rfl rfl hl.1 rfl (lv_room (Nat.le_of_ble_eq_true rfl)) dX11_best_53 ⟨(Nat.le_of_ble_eq_true rfl), (Nat.le_of_ble_eq_true rfl)⟩) hw hA (fun _ _ h => h.1) (fun v53 w_2 H locs hp hw => ?_)
            obtain ⟨_, hm⟩ := hp
            have l_v53 := i32_lo v53
            have h_v53 := i32_hi v53
            have hM := hM.trans hm (by decide) (by decide)
            have f_a0_X11_5 := hm.1 _ _ _ _ f_a0_X11_5 (by decide)
            have f_v1_X10_0 := hm.1 _ _ _ _ f_v1_X10_0 (by decide)
            have f_v4_X0_0 := hm.1 _ _ _ _ f_v4_X0_0 (by decide)
            have f_v1_X10_1 := hm.1 _ _ _ _ f_v1_X10_1 (by decide)
            refine lv_iconst (v := 1) hx hb dX11_best_56 (by decide) ?_
            refine lv_iadd hx hb dX11_best_57 ?_
            refine lv_topi (fun v57 e_v57 => ?_)
            have l_v57 := i32_lo v57
            have h_v57 := i32_hi v57
            refine lv_aload_n hx hb dX11_best_58 rfl (lv_at hl 1 rfl) ?_
            refine t_getk (ci := 11) (C := RX11) (T := TX11) (N := 12) hx hb hts iX11 hown hw rfl 5 (by decide) (hts _ tw_428) (fun _ h9 => h9) dX11_best_59 f_a0_X11_5 ?_
            refine t_getk (ci := 10) (C := RX10) (T := TX10) (N := 8) hx hb hts iX10 hown hw rfl 1 (by decide) (hts _ tw_285) (fun _ h9 => h9) dX11_best_62 f_v1_X10_1 ?_
            refine t_geti (ci := 8) (C := RX8) (T := TX8) (N := 13) hx hb hts iX8 hown hw k_v49 rfl rfl rfl 0 (by decide) (hts _ tw_222) (fun _ h9 => h9) dX11_best_65 rfl (fun v65 l_v65 h_v65 f_v49_X8_0 => ?_)
            have l_v65 : (-2147483648) ≤ v65.toInt := l_v65
            have h_v65 : v65.toInt ≤ 2147483647 := h_v65
            refine lv_isub hx hb dX11_best_68 ?_
            refine lv_topi (fun v68 e_v68 => ?_)
            have l_v68 := i32_lo v68
            have h_v68 := i32_hi v68
            rw [hQ]
            refine W.widen (k := 0) (n := 0) (Nat.le_refl _) (Nat.le_refl _) ?_
            exact W.iret (v := v68) hx hb hr (fun t ht hW => ⟨⟨v68, w_2, rfl, ⟨hw.2.2.2.2, hM⟩, by rw [ht]; exact hw.2.1, va_K.moved hW.alike hw.1, hw.2.2.1⟩, hw.2.2.2.1.F ht⟩) hw.2.2.2.1.2.2 dX11_best_69
          · simp only [fa_lt, fa_le, fa_eq, li_0] at c_38
            refine lv_iload_n hx hb dX11_best_41 rfl (lv_at hl 0 rfl) ?_
            refine lv_goto (tgt := 69) hx hb dX11_best_42 (by decide) ?_
            rw [hQ]
            refine W.widen (k := 0) (n := 0) (Nat.le_refl _) (Nat.le_refl _) ?_
            exact W.iret (v := v25) hx hb hr (fun t ht hW => ⟨⟨v25, w_1, rfl, ⟨hw.2.2.2.2, hM⟩, by rw [ht]; exact hw.2.1, va_K.moved hW.alike hw.1, hw.2.2.1⟩, hw.2.2.2.1.F ht⟩) hw.2.2.2.1.2.2 dX11_best_69
        · simp only [fa_lt, fa_le, fa_eq, li_m1] at c_31
          refine lv_bipush (v := (-2)) hx hb dX11_best_34 (by decide) ?_
          rw [hQ]
          refine W.widen (k := 0) (n := 0) (Nat.le_refl _) (Nat.le_refl _) ?_
          exact W.iret (v := (-2)) hx hb hr (fun t ht hW => ⟨⟨(-2), w_1, rfl, ⟨hw.2.2.2.2, hM⟩, by rw [ht]; exact hw.2.1, va_K.moved hW.alike hw.1, hw.2.2.1⟩, hw.2.2.2.1.F ht⟩) hw.2.2.2.1.2.2 dX11_best_36
      · simp only [fa_lt, fa_le, fa_eq, li_1] at c_19
        refine lv_iconst (v := (-1)) hx hb dX11_best_22 (by decide) ?_
        rw [hQ]
        refine W.widen (k := 0) (n := 0) (Nat.le_refl _) (Nat.le_refl _) ?_
        exact W.iret (v := (-1)) hx hb hr (fun t ht hW => ⟨⟨(-1), ws, rfl, ⟨hw.2.2.2.2, hM⟩, by rw [ht]; exact hw.2.1, va_K.moved hW.alike hw.1, hw.2.2.1⟩, hw.2.2.2.1.F ht⟩) hw.2.2.2.1.2.2 dX11_best_23
set_option maxHeartbeats 4000000 in
set_option maxRecDepth 100000 in
theorem t_X8_laidBy (l : Launch) (dC : Nat → ClassId) (dI : Nat → Nat → Nat) (tys : List (ClassId × FieldType)) (κ : tK) (B : Nat) (ws : va_W) (hT : Ty κ tys B ws) (a0 : Nat) (k_a0 : κ a0 = some 8) (a1 : Int32) (l_a1 : 0 ≤ a1.toInt) (h_a1 : a1.toInt ≤ 63) (sz : Nat) : Met l yX8_laidBy (ws_u yX8_laidBy cX8_laidBy 4 (some .int)) ({ frames := 0, cells := 0, slots := 0, locals := 0 }) (va_Pc [.ref a0, .int a1] (cPre (dC, dI) tys ws sz)) (va_Qi (fun (r : Int32) (w : va_W) => Ty κ tys B w ∧ Sm [] [] κ ws w) (fun w t => cPost (dC, dI) tys w (va_A ws sz) t) (va_A ws sz)) 0 0 (va_A ws sz) := by
  refine Met.ofW (cc := cX8_laidBy) (maxL := 4) (ret := (some .int)) (by decide) rfl ?_
  intro p e s m args below meth c s₁ B0 hml hv
  obtain ⟨rfl, hsz, hP, hK, hD0, hE⟩ := hv
  have hx := B0.exec
  have hb := B0.bytes
  have hr := B0.returns
  have hts0 := atoms_spec (ws := ws_u yX8_laidBy cX8_laidBy 4 (some .int)) B0.pre
  have hts : ∀ w ∈ gT, w.before _ s = true := fun w h => hts0 w (List.mem_cons_of_mem _ h)
  have hown : s.vm.findClass RX8 = some m.cls := findClass_of_methodNamed B0.named
  have hlocks := B0.notSynchronized
  subst hsz
  have hD := hD0.self (sz := s.heap.size)
  generalize hAe : va_A ws s.heap.size = A at hD ⊢
  have hA : ∀ q : Nat, s.heap.size ≤ q → A q := fun q h => by rw [← hAe]; exact Or.inr h
  have hw : tW (dC, dI) tys κ B A s ws s.heap [] := ⟨hK, hP, hD, va_S.rf, hT⟩
  have hM : Sm [] [] κ ws ws := Sm.rf
  clear hP hK hD hD0 hts0
  have hl := lv_entry ([.ref a0, .int a1]) (n := 4) (Nat.le_of_ble_eq_true rfl)
  rw [lg_entry_eq]
  generalize (lg_sl ([.ref a0, .int a1]) ++ List.replicate (4 - (lg_sl ([.ref a0, .int a1])).length) Slot.unset).toArray = ls at hl ⊢
  have hl : lv_has ls 4 [(0, .ref a0), (1, .int a1)] := hl
  refine t_start (fun QQ hQ => ?_)
  refine lv_iconst (v := 0) hx hb dX8_laidBy_0 (by decide) ?_
  refine lv_istore_n (lv' := [(2, .int 0), (0, .ref a0), (1, .int a1)]) hx hb dX8_laidBy_1 rfl hl (by decide) rfl (fun ls hl => ?_)
  refine lv_iconst (v := 0) hx hb dX8_laidBy_2 (by decide) ?_
  refine lv_istore_n (lv' := [(3, .int 0), (2, .int 0), (0, .ref a0), (1, .int a1)]) hx hb dX8_laidBy_3 rfl hl (by decide) rfl (fun ls hl => ?_)
  have J4 : ∀ (n : Nat) (H : Heap) (locs : List Loc) (ls : Array Slot), (∃ (w4 : va_W) (p4_l2 : Int32) (p4_l3 : Int32), tW (dC, dI) tys κ B A s w4 H locs ∧ Sm [] [] κ ws w4 ∧ (-2147483648) ≤ p4_l2.toInt ∧ p4_l2.toInt ≤ 2147483647 ∧ 0 ≤ p4_l3.toInt ∧ p4_l3.toInt ≤ 6 ∧ lv_has ls 4 [(0, .ref a0), (1, .int a1), (2, .int p4_l2), (3, .int p4_l3)] ∧ (6 - p4_l3.toInt).toNat = n) → W p l e (headSpec (ws_u yX8_laidBy cX8_laidBy 4 (some .int)) ({ frames := 0, cells := 0, slots := 0, locals := 0 })).room s m ([.ref a0, .int a1] : List Value).toArray below meth c H locs 0 0 QQ (F0 m 4 ls []) := by
    refine loopT _ ?_
    intro n_4 H locs ls hI ih_4
    obtain ⟨w4, p4_l2, p4_l3, hw, hM, l_p4_l2, h_p4_l2, l_p4_l3, h_p4_l3, hl, hn_4⟩ := hI
    refine lv_iload_n hx hb dX8_laidBy_4 rfl (lv_at hl 3 rfl) ?_
    refine lv_bipush (v := 6) hx hb dX8_laidBy_5 (by decide) ?_
    refine lv_icmp_ge (tgt := 34) hx hb dX8_laidBy_7 (by decide) (fun c_7 => ?_) (fun c_7 => ?_)
    · simp only [fa_lt, fa_le, fa_eq, li_6] at c_7
      refine lv_iload_n hx hb dX8_laidBy_34 rfl (lv_at hl 2 rfl) ?_
      rw [hQ]
      refine W.widen (k := 0) (n := 0) (Nat.le_refl _) (Nat.le_refl _) ?_
      exact W.iret (v := p4_l2) hx hb hr (fun t ht hW => ⟨⟨p4_l2, w4, rfl, ⟨hw.2.2.2.2, hM⟩, by rw [ht]; exact hw.2.1, va_K.moved hW.alike hw.1, hw.2.2.1⟩, hw.2.2.2.1.F ht⟩) hw.2.2.2.1.2.2 dX8_laidBy_35
    · simp only [fa_lt, fa_le, fa_eq, li_6] at c_7
      refine lv_iload_n hx hb dX8_laidBy_10 rfl (lv_at hl 1 rfl) ?_
      refine lv_iload_n hx hb dX8_laidBy_11 rfl (lv_at hl 3 rfl) ?_
      refine lv_ishr hx hb dX8_laidBy_12 ?_
      refine lv_topi (fun v12 e_v12 => ?_)
      have l_v12 := i32_lo v12
      have h_v12 := i32_hi v12
      refine lv_iconst (v := 1) hx hb dX8_laidBy_13 (by decide) ?_
      refine lv_iand hx hb dX8_laidBy_14 ?_
      refine lv_topi (fun v14 e_v14 => ?_)
      have ⟨l_v14, h_v14⟩ : 0 ≤ v14.toInt ∧ v14.toInt ≤ 1 := and_r e_v14 li_1 (by decide)
      refine lv_iconst (v := 1) hx hb dX8_laidBy_15 (by decide) ?_
      have J28 : ∀ (H : Heap) (locs : List Loc) (ls : Array Slot) (w28 : va_W) (p28_l2 : Int32), tW (dC, dI) tys κ B A s w28 H locs → Sm [] [] κ ws w28 → (-2147483648) ≤ p28_l2.toInt → p28_l2.toInt ≤ 2147483647 → lv_has ls 4 [(0, .ref a0), (1, .int a1), (2, .int p28_l2), (3, .int p4_l3)] → W p l e (headSpec (ws_u yX8_laidBy cX8_laidBy 4 (some .int)) ({ frames := 0, cells := 0, slots := 0, locals := 0 })).room s m ([.ref a0, .int a1] : List Value).toArray below meth c H locs 0 0 QQ (F0 m 28 ls []) := by
        intro H locs ls w28 p28_l2 hw hM l_p28_l2 h_p28_l2 hl
        obtain ⟨v28, e_v28⟩ : ∃ y : Int32, y = p4_l3 + 1 := ⟨_, rfl⟩
        refine lv_iinc (v := v28) (lv' := [(3, .int v28), (0, .ref a0), (1, .int a1), (2, .int p28_l2)]) hx hb dX8_laidBy_28 hl (k := 3) rfl e_v28.symm (by decide) rfl (fun ls hl => ?_)
        have e_v28 : v28.toInt = p4_l3.toInt + 1 := ad_i e_v28 rfl li_1 (by omega) (by omega)
        refine lv_goto (tgt := 4) hx hb dX8_laidBy_31 (by decide) ?_
        exact ih_4 _ _ _ _ (by omega) ⟨w28, p28_l2, v28, hw, hM, (by omega), (by omega), (by omega), (by omega), (lv_sub hl [1, 2, 3, 0] rfl), rfl⟩
      refine lv_icmp_ne (tgt := 28) hx hb dX8_laidBy_16 (by decide) (fun c_16 => ?_) (fun c_16 => ?_)
      · simp only [fa_lt, fa_le, fa_eq, li_1] at c_16
        exact J28 _ _ _ w4 p4_l2 hw hM (by omega) (by omega) (lv_sub hl [0, 1, 2, 3] rfl)
      · simp only [fa_lt, fa_le, fa_eq, li_1] at c_16
        refine lv_iload_n hx hb dX8_laidBy_19 rfl (lv_at hl 2 rfl) ?_
        refine lv_aload_n hx hb dX8_laidBy_20 rfl (lv_at hl 0 rfl) ?_
        refine t_getr (k1 := 48) (ci := 8) (C := RX8) (T := TX8) (N := 13) hx hb hts iX8 hown hw k_a0 rfl rfl rfl 12 (by decide) (hts _ tw_252) (fun _ h9 => h9) dX8_laidBy_21 rfl (fun v21 k_v21 f_a0_X8_12 => ?_)
        refine lv_iload_n hx hb dX8_laidBy_24 rfl (lv_at hl 3 rfl) ?_
        refine t_iald hx hb hw k_v21 rfl rfl (by omega) (show p4_l3.toInt < 6 by omega) dX8_laidBy_25 (fun v25 r_v25 s_v25 q_v25 => ?_)
        have l_v25 := i32_lo v25
        have h_v25 := i32_hi v25
        refine lv_iadd hx hb dX8_laidBy_26 ?_
        refine lv_topi (fun v26 e_v26 => ?_)
        have l_v26 := i32_lo v26
        have h_v26 := i32_hi v26
        refine lv_istore_n (lv' := [(2, .int v26), (0, .ref a0), (1, .int a1), (3, .int p4_l3)]) hx hb dX8_laidBy_27 rfl hl (by decide) rfl (fun ls hl => ?_)
        exact J28 _ _ _ w4 v26 hw hM (by omega) (by omega) (lv_sub hl [1, 2, 0, 3] rfl)
  exact J4 _ _ _ _ ⟨ws, 0, 0, hw, hM, (by decide), (by decide), (by decide), (by decide), (lv_sub hl [2, 3, 1, 0] rfl), rfl⟩
set_option maxHeartbeats 4000000 in
set_option maxRecDepth 100000 in
theorem t_X11_bestRound (l : Launch) (dC : Nat → ClassId) (dI : Nat → Nat → Nat) (tys : List (ClassId × FieldType)) (κ : tK) (B : Nat) (ws : va_W) (hT : Ty κ tys B ws) (a0 : Nat) (k_a0 : κ a0 = some 11) (sz : Nat) : Met l yX11_bestRound (ws_u yX11_bestRound cX11_bestRound 8 (some .int)) ({ frames := 8, cells := 0, slots := 0, locals := 218 }) (va_Pc [.ref a0] (cPre (dC, dI) tys ws sz)) (va_Qi (fun (r : Int32) (w : va_W) => 0 ≤ r.toInt ∧ r.toInt ≤ 63 ∧ Ty κ tys B w ∧ Sm [] [] κ ws w) (fun w t => cPost (dC, dI) tys w (va_A ws sz) t) (va_A ws sz)) 0 0 (va_A ws sz) := by
  refine Met.ofW (cc := cX11_bestRound) (maxL := 8) (ret := (some .int)) (by decide) rfl ?_
  intro p e s m args below meth c s₁ B0 hml hv
  obtain ⟨rfl, hsz, hP, hK, hD0, hE⟩ := hv
  have hx := B0.exec
  have hb := B0.bytes
  have hr := B0.returns
  have hts0 := atoms_spec (ws := ws_u yX11_bestRound cX11_bestRound 8 (some .int)) B0.pre
  have hts : ∀ w ∈ gT, w.before _ s = true := fun w h => hts0 w (List.mem_cons_of_mem _ h)
  have hown : s.vm.findClass RX11 = some m.cls := findClass_of_methodNamed B0.named
  have hlocks := B0.notSynchronized
  subst hsz
  have hD := hD0.self (sz := s.heap.size)
  generalize hAe : va_A ws s.heap.size = A at hD ⊢
  have hA : ∀ q : Nat, s.heap.size ≤ q → A q := fun q h => by rw [← hAe]; exact Or.inr h
  have hw : tW (dC, dI) tys κ B A s ws s.heap [] := ⟨hK, hP, hD, va_S.rf, hT⟩
  have hM : Sm [] [] κ ws ws := Sm.rf
  clear hP hK hD hD0 hts0
  have hl := lv_entry ([.ref a0]) (n := 8) (Nat.le_of_ble_eq_true rfl)
  rw [lg_entry_eq]
  generalize (lg_sl ([.ref a0]) ++ List.replicate (8 - (lg_sl ([.ref a0])).length) Slot.unset).toArray = ls at hl ⊢
  have hl : lv_has ls 8 [(0, .ref a0)] := hl
  refine t_start (fun QQ hQ => ?_)
  refine lv_iconst (v := 0) hx hb dX11_bestRound_0 (by decide) ?_
  refine lv_istore_n (lv' := [(1, .int 0), (0, .ref a0)]) hx hb dX11_bestRound_1 rfl hl (by decide) rfl (fun ls hl => ?_)
  refine lv_iconst (v := 0) hx hb dX11_bestRound_2 (by decide) ?_
  refine lv_istore_n (lv' := [(2, .int 0), (1, .int 0), (0, .ref a0)]) hx hb dX11_bestRound_3 rfl hl (by decide) rfl (fun ls hl => ?_)
  refine lv_iconst (v := 0) hx hb dX11_bestRound_4 (by decide) ?_
  refine lv_istore_n (lv' := [(3, .int 0), (2, .int 0), (1, .int 0), (0, .ref a0)]) hx hb dX11_bestRound_5 rfl hl (by decide) rfl (fun ls hl => ?_)
  refine lv_aload_n hx hb dX11_bestRound_6 rfl (lv_at hl 3 rfl) ?_
  refine t_getr (k1 := 10) (ci := 11) (C := RX11) (T := TX11) (N := 12) hx hb hts iX11 hown hw k_a0 rfl rfl rfl 5 (by decide) (hts _ tw_428) (fun _ h9 => h9) dX11_bestRound_7 rfl (fun v7 k_v7 f_a0_X11_5 => ?_)
  refine t_getr (k1 := 0) (ci := 10) (C := RX10) (T := TX10) (N := 8) hx hb hts iX10 hown hw k_v7 rfl rfl rfl 0 (by decide) (hts _ tw_282) (fun _ h9 => h9) dX11_bestRound_10 rfl (fun v10 k_v10 f_v7_X10_0 => ?_)
  refine lv_aload_n hx hb dX11_bestRound_13 rfl (lv_at hl 3 rfl) ?_
  refine t_getk (ci := 11) (C := RX11) (T := TX11) (N := 12) hx hb hts iX11 hown hw rfl 5 (by decide) (hts _ tw_428) (fun _ h9 => h9) dX11_bestRound_14 f_a0_X11_5 ?_
  refine t_getr (k1 := 8) (ci := 10) (C := RX10) (T := TX10) (N := 8) hx hb hts iX10 hown hw k_v7 rfl rfl rfl 1 (by decide) (hts _ tw_285) (fun _ h9 => h9) dX11_bestRound_17 rfl (fun v17 k_v17 f_v7_X10_1 => ?_)
  refine t_geti (ci := 8) (C := RX8) (T := TX8) (N := 13) hx hb hts iX8 hown hw k_v17 rfl rfl rfl 0 (by decide) (hts _ tw_222) (fun _ h9 => h9) dX11_bestRound_20 rfl (fun v20 l_v20 h_v20 f_v17_X8_0 => ?_)
  have l_v20 : (-2147483648) ≤ v20.toInt := l_v20
  have h_v20 : v20.toInt ≤ 2147483647 := h_v20
  refine t_calli (va_runV (As := [.int v20]) (rest := []) ⟨hx, hb, hml, hown, hts⟩ (t_X0_hoursOn l dC dI tys κ B ws hw.2.2.2.2 v10 k_v10 v20 s.heap.size) (cwV 1 hts (gUV tw_849 tw_850 tw_851 tw_4 tw_852) rfl rfl rfl (by decide +kernel) ⟨(Nat.le_of_ble_eq_true rfl), (Nat.le_of_ble_eq_true rfl)⟩) ⟨cPre.blind, t_recv hw (ci := 0) k_v10 rfl rfl, cPre.use hw.2.1 hw.1 hw.2.2.1 hE⟩ rfl rfl hl.1 rfl (lv_room (Nat.le_of_ble_eq_true rfl)) dX11_bestRound_23 ⟨(Nat.le_of_ble_eq_true rfl), (Nat.le_of_ble_eq_true rfl)⟩) hw hA (fun _ _ h => h.1) (fun v23 w_1 H locs hp hw => ?_)
  obtain ⟨_, hm⟩ := hp
  have l_v23 := i32_lo v23
  have h_v23 := i32_hi v23
  have hM := hM.trans hm (by decide) (by decide)
  have f_a0_X11_5 := hm.1 _ _ _ _ f_a0_X11_5 (by decide)
  have f_v7_X10_0 := hm.1 _ _ _ _ f_v7_X10_0 (by decide)
  have f_v7_X10_1 := hm.1 _ _ _ _ f_v7_X10_1 (by decide)
  have f_v17_X8_0 := hm.1 _ _ _ _ f_v17_X8_0 (by decide)
  refine lv_istore (lv' := [(4, .int v23), (3, .int 0), (2, .int 0), (1, .int 0), (0, .ref a0)]) hx hb dX11_bestRound_26 hl (by decide) rfl (fun ls hl => ?_)
  refine lv_iconst (v := 1) hx hb dX11_bestRound_28 (by decide) ?_
  refine lv_istore (lv' := [(5, .int 1), (4, .int v23), (3, .int 0), (2, .int 0), (1, .int 0), (0, .ref a0)]) hx hb dX11_bestRound_29 hl (by decide) rfl (fun ls hl => ?_)
  have J31 : ∀ (n : Nat) (H : Heap) (locs : List Loc) (ls : Array Slot), (∃ (w31 : va_W) (p31_l1 : Int32) (p31_l2 : Int32) (p31_l3 : Int32) (p31_l5 : Int32), tW (dC, dI) tys κ B A s w31 H locs ∧ Sm [] [] κ ws w31 ∧ 0 ≤ p31_l1.toInt ∧ p31_l1.toInt ≤ 2147483647 ∧ (-2147483648) ≤ p31_l2.toInt ∧ p31_l2.toInt ≤ 2147483647 ∧ 0 ≤ p31_l3.toInt ∧ p31_l3.toInt ≤ 63 ∧ 1 ≤ p31_l5.toInt ∧ p31_l5.toInt ≤ 64 ∧ fld w31 a0 11 5 (.ref v7) ∧ fld w31 v17 8 0 (.int v20) ∧ fld w31 v7 10 0 (.ref v10) ∧ fld w31 v7 10 1 (.ref v17) ∧ lv_has ls 8 [(0, .ref a0), (1, .int p31_l1), (2, .int p31_l2), (3, .int p31_l3), (4, .int v23), (5, .int p31_l5)] ∧ (64 - p31_l5.toInt).toNat = n) → W p l e (headSpec (ws_u yX11_bestRound cX11_bestRound 8 (some .int)) ({ frames := 8, cells := 0, slots := 0, locals := 218 })).room s m ([.ref a0] : List Value).toArray below meth c H locs 0 0 QQ (F0 m 31 ls []) := by
    refine loopT _ ?_
    intro n_31 H locs ls hI ih_31
    obtain ⟨w31, p31_l1, p31_l2, p31_l3, p31_l5, hw, hM, l_p31_l1, h_p31_l1, l_p31_l2, h_p31_l2, l_p31_l3, h_p31_l3, l_p31_l5, h_p31_l5, f_a0_X11_5, f_v17_X8_0, f_v7_X10_0, f_v7_X10_1, hl, hn_31⟩ := hI
    refine lv_iload hx hb dX11_bestRound_31 (lv_at hl 5 rfl) ?_
    refine lv_iconst (v := 1) hx hb dX11_bestRound_33 (by decide) ?_
    refine lv_aload_n hx hb dX11_bestRound_34 rfl (lv_at hl 0 rfl) ?_
    refine t_getk (ci := 11) (C := RX11) (T := TX11) (N := 12) hx hb hts iX11 hown hw rfl 5 (by decide) (hts _ tw_428) (fun _ h9 => h9) dX11_bestRound_35 f_a0_X11_5 ?_
    refine t_getk (ci := 10) (C := RX10) (T := TX10) (N := 8) hx hb hts iX10 hown hw rfl 0 (by decide) (hts _ tw_282) (fun _ h9 => h9) dX11_bestRound_38 f_v7_X10_0 ?_
    refine t_geti (ci := 0) (C := RX0) (T := TX0) (N := 16) hx hb hts iX0 hown hw k_v10 rfl rfl rfl 5 (by decide) (hts _ tw_89) (fun _ h9 => h9) dX11_bestRound_41 rfl (fun v41 l_v41 h_v41 f_v10_X0_5 => ?_)
    have l_v41 : 0 ≤ v41.toInt := l_v41
    have h_v41 : v41.toInt ≤ 6 := h_v41
    refine lv_ishl hx hb dX11_bestRound_44 ?_
    refine lv_topi (fun v44 e_v44 => ?_)
    have ⟨l_v44, h_v44⟩ := sh_i e_v44 (by omega) (by omega)
    refine lv_icmp_ge (tgt := 120) hx hb dX11_bestRound_45 (by decide) (fun c_45 => ?_) (fun c_45 => ?_)
    · simp only [fa_lt, fa_le, fa_eq] at c_45
      refine lv_iload_n hx hb dX11_bestRound_120 rfl (lv_at hl 3 rfl) ?_
      rw [hQ]
      refine W.widen (k := 0) (n := 0) (Nat.le_refl _) (Nat.le_refl _) ?_
      exact W.iret (v := p31_l3) hx hb hr (fun t ht hW => ⟨⟨p31_l3, w31, rfl, ⟨(by omega), (by omega), hw.2.2.2.2, hM⟩, by rw [ht]; exact hw.2.1, va_K.moved hW.alike hw.1, hw.2.2.1⟩, hw.2.2.2.1.F ht⟩) hw.2.2.2.1.2.2 dX11_bestRound_121
    · simp only [fa_lt, fa_le, fa_eq] at c_45
      refine lv_aload_n hx hb dX11_bestRound_48 rfl (lv_at hl 0 rfl) ?_
      refine t_getk (ci := 11) (C := RX11) (T := TX11) (N := 12) hx hb hts iX11 hown hw rfl 5 (by decide) (hts _ tw_428) (fun _ h9 => h9) dX11_bestRound_49 f_a0_X11_5 ?_
      refine t_getk (ci := 10) (C := RX10) (T := TX10) (N := 8) hx hb hts iX10 hown hw rfl 1 (by decide) (hts _ tw_285) (fun _ h9 => h9) dX11_bestRound_52 f_v7_X10_1 ?_
      refine lv_iload hx hb dX11_bestRound_55 (lv_at hl 5 rfl) ?_
      refine t_calli (va_runV (As := [.int p31_l5]) (rest := []) ⟨hx, hb, hml, hown, hts⟩ (t_X8_laidBy l dC dI tys κ B w31 hw.2.2.2.2 v17 k_v17 p31_l5 (by omega) (by omega) H.size) (cwV 1 hts (gUV tw_983 tw_984 tw_985 tw_8 tw_986) rfl rfl rfl (by decide +kernel) ⟨(Nat.le_of_ble_eq_true rfl), (Nat.le_of_ble_eq_true rfl)⟩) ⟨cPre.blind, t_recv hw (ci := 8) k_v17 rfl rfl, cPre.use hw.2.1 hw.1 hw.2.2.1 hE⟩ rfl rfl hl.1 rfl (lv_room (Nat.le_of_ble_eq_true rfl)) dX11_bestRound_57 ⟨(Nat.le_of_ble_eq_true rfl), (Nat.le_of_ble_eq_true rfl)⟩) hw hA (fun _ _ h => h.1) (fun v57 w_2 H locs hp hw => ?_)
      obtain ⟨_, hm⟩ := hp
      have l_v57 := i32_lo v57
      have h_v57 := i32_hi v57
      have hM := hM.trans hm (by decide) (by decide)
      have f_a0_X11_5 := hm.1 _ _ _ _ f_a0_X11_5 (by decide)
      have f_v17_X8_0 := hm.1 _ _ _ _ f_v17_X8_0 (by decide)
      have f_v7_X10_0 := hm.1 _ _ _ _ f_v7_X10_0 (by decide)
      have f_v7_X10_1 := hm.1 _ _ _ _ f_v7_X10_1 (by decide)
      have f_v10_X0_5 := hm.1 _ _ _ _ f_v10_X0_5 (by decide)
      refine lv_istore (lv' := [(6, .int v57), (0, .ref a0), (1, .int p31_l1), (2, .int p31_l2), (3, .int p31_l3), (4, .int v23), (5, .int p31_l5)]) hx hb dX11_bestRound_60 hl (by decide) rfl (fun ls hl => ?_)
      refine lv_iload hx hb dX11_bestRound_62 (lv_at hl 0 rfl) ?_
      refine lv_iload_n hx hb dX11_bestRound_64 rfl (lv_at hl 2 rfl) ?_
      have J114 : ∀ (H : Heap) (locs : List Loc) (ls : Array Slot) (w114 : va_W) (p114_l1 : Int32) (p114_l2 : Int32) (p114_l3 : Int32), tW (dC, dI) tys κ B A s w114 H locs → Sm [] [] κ ws w114 → 0 ≤ p114_l1.toInt → p114_l1.toInt ≤ 2147483647 → (-2147483648) ≤ p114_l2.toInt → p114_l2.toInt ≤ 2147483647 → 0 ≤ p114_l3.toInt → p114_l3.toInt ≤ 63 → fld w114 a0 11 5 (.ref v7) → fld w114 v10 0 5 (.int v41) → fld w114 v17 8 0 (.int v20) → fld w114 v7 10 0 (.ref v10) → fld w114 v7 10 1 (.ref v17) → lv_has ls 8 [(0, .ref a0), (1, .int p114_l1), (2, .int p114_l2), (3, .int p114_l3), (4, .int v23), (5, .int p31_l5), (6, .int v57)] → W p l e (headSpec (ws_u yX11_bestRound cX11_bestRound 8 (some .int)) ({ frames := 8, cells := 0, slots := 0, locals := 218 })).room s m ([.ref a0] : List Value).toArray below meth c H locs 0 0 QQ (F0 m 114 ls []) := by
        intro H locs ls w114 p114_l1 p114_l2 p114_l3 hw hM l_p114_l1 h_p114_l1 l_p114_l2 h_p114_l2 l_p114_l3 h_p114_l3 f_a0_X11_5 f_v10_X0_5 f_v17_X8_0 f_v7_X10_0 f_v7_X10_1 hl
        obtain ⟨v114, e_v114⟩ : ∃ y : Int32, y = p31_l5 + 1 := ⟨_, rfl⟩
        refine lv_iinc (v := v114) (lv' := [(5, .int v114), (0, .ref a0), (1, .int p114_l1), (2, .int p114_l2), (3, .int p114_l3), (4, .int v23), (6, .int v57)]) hx hb dX11_bestRound_114 hl (k := 5) rfl e_v114.symm (by decide) rfl (fun ls hl => ?_)
        have e_v114 : v114.toInt = p31_l5.toInt + 1 := ad_i e_v114 rfl li_1 (by omega) (by omega)
        refine lv_goto (tgt := 31) hx hb dX11_bestRound_117 (by decide) ?_
        exact ih_31 _ _ _ _ (by omega) ⟨w114, p114_l1, p114_l2, p114_l3, v114, hw, hM, (by omega), (by omega), (by omega), (by omega), (by omega), (by omega), (by omega), (by omega), f_a0_X11_5, f_v17_X8_0, f_v7_X10_0, f_v7_X10_1, (lv_sub hl [1, 2, 3, 4, 5, 0] rfl), rfl⟩
      refine lv_icmp_ge (tgt := 71) hx hb dX11_bestRound_65 (by decide) (fun c_65 => ?_) (fun c_65 => ?_)
      · simp only [fa_lt, fa_le, fa_eq] at c_65
        refine lv_aload_n hx hb dX11_bestRound_71 rfl (lv_at hl 1 rfl) ?_
        refine t_getk (ci := 11) (C := RX11) (T := TX11) (N := 12) hx hb hts iX11 hown hw rfl 5 (by decide) (hts _ tw_428) (fun _ h9 => h9) dX11_bestRound_72 f_a0_X11_5 ?_
        refine t_getk (ci := 10) (C := RX10) (T := TX10) (N := 8) hx hb hts iX10 hown hw rfl 0 (by decide) (hts _ tw_282) (fun _ h9 => h9) dX11_bestRound_75 f_v7_X10_0 ?_
        refine lv_iconst (v := 0) hx hb dX11_bestRound_78 (by decide) ?_
        refine lv_iload hx hb dX11_bestRound_79 (lv_at hl 6 rfl) ?_
        refine t_calli (va_runV (As := [.int 0, .int p31_l5]) (rest := []) ⟨hx, hb, hml, hown, hts⟩ (t_X0_roundHours l dC dI tys κ B w_2 hw.2.2.2.2 v10 k_v10 0 (by decide) (by decide) p31_l5 (by omega) (by omega) H.size) (cwV 2 hts (gUV tw_987 tw_988 tw_989 tw_4 tw_990) rfl rfl rfl (by decide +kernel) ⟨(Nat.le_of_ble_eq_true rfl), (Nat.le_of_ble_eq_true rfl)⟩) ⟨cPre.blind, t_recv hw (ci := 0) k_v10 rfl rfl, cPre.use hw.2.1 hw.1 hw.2.2.1 hE⟩ rfl rfl hl.1 rfl (lv_room (Nat.le_of_ble_eq_true rfl)) dX11_bestRound_81 ⟨(Nat.le_of_ble_eq_true rfl), (Nat.le_of_ble_eq_true rfl)⟩) hw hA (fun _ _ h => h.1) (fun v81 w_3 H locs hp hw => ?_)
        obtain ⟨_, hm⟩ := hp
        have l_v81 := i32_lo v81
        have h_v81 := i32_hi v81
        have hM := hM.trans hm (by decide) (by decide)
        have f_a0_X11_5 := hm.1 _ _ _ _ f_a0_X11_5 (by decide)
        have f_v17_X8_0 := hm.1 _ _ _ _ f_v17_X8_0 (by decide)
        have f_v7_X10_0 := hm.1 _ _ _ _ f_v7_X10_0 (by decide)
        have f_v7_X10_1 := hm.1 _ _ _ _ f_v7_X10_1 (by decide)
        have f_v10_X0_5 := hm.1 _ _ _ _ f_v10_X0_5 (by decide)
        refine lv_istore (lv' := [(7, .int v81), (6, .int v57), (0, .ref a0), (1, .int p31_l1), (2, .int p31_l2), (3, .int p31_l3), (4, .int v23), (5, .int p31_l5)]) hx hb dX11_bestRound_84 hl (by decide) rfl (fun ls hl => ?_)
        refine lv_iload hx hb dX11_bestRound_86 (lv_at hl 0 rfl) ?_
        refine lv_iload hx hb dX11_bestRound_88 (lv_at hl 6 rfl) ?_
        refine lv_icmp_gt (tgt := 114) hx hb dX11_bestRound_90 (by decide) (fun c_90 => ?_) (fun c_90 => ?_)
        · simp only [fa_lt, fa_le, fa_eq] at c_90
          exact J114 _ _ _ w_3 p31_l1 p31_l2 p31_l3 hw hM (by omega) (by omega) (by omega) (by omega) (by omega) (by omega) f_a0_X11_5 f_v10_X0_5 f_v17_X8_0 f_v7_X10_0 f_v7_X10_1 (lv_sub hl [2, 3, 4, 5, 6, 7, 1] rfl)
        · simp only [fa_lt, fa_le, fa_eq] at c_90
          refine lv_iload hx hb dX11_bestRound_93 (lv_at hl 1 rfl) ?_
          refine lv_iload_n hx hb dX11_bestRound_95 rfl (lv_at hl 3 rfl) ?_
          have J105 : ∀ (H : Heap) (locs : List Loc) (ls : Array Slot) (w105 : va_W), tW (dC, dI) tys κ B A s w105 H locs → Sm [] [] κ ws w105 → fld w105 a0 11 5 (.ref v7) → fld w105 v10 0 5 (.int v41) → fld w105 v17 8 0 (.int v20) → fld w105 v7 10 0 (.ref v10) → fld w105 v7 10 1 (.ref v17) → lv_has ls 8 [(0, .ref a0), (1, .int p31_l1), (2, .int p31_l2), (3, .int p31_l3), (4, .int v23), (5, .int p31_l5), (6, .int v57), (7, .int v81)] → W p l e (headSpec (ws_u yX11_bestRound cX11_bestRound 8 (some .int)) ({ frames := 8, cells := 0, slots := 0, locals := 218 })).room s m ([.ref a0] : List Value).toArray below meth c H locs 0 0 QQ (F0 m 105 ls []) := by
            intro H locs ls w105 hw hM f_a0_X11_5 f_v10_X0_5 f_v17_X8_0 f_v7_X10_0 f_v7_X10_1 hl
            refine lv_iload hx hb dX11_bestRound_105 (lv_at hl 6 rfl) ?_
            refine lv_istore_n (lv' := [(1, .int v57), (0, .ref a0), (2, .int p31_l2), (3, .int p31_l3), (4, .int v23), (5, .int p31_l5), (6, .int v57), (7, .int v81)]) hx hb dX11_bestRound_107 rfl hl (by decide) rfl (fun ls hl => ?_)
            refine lv_iload hx hb dX11_bestRound_108 (lv_at hl 7 rfl) ?_
            refine lv_istore_n (lv' := [(2, .int v81), (1, .int v57), (0, .ref a0), (3, .int p31_l3), (4, .int v23), (5, .int p31_l5), (6, .int v57), (7, .int v81)]) hx hb dX11_bestRound_110 rfl hl (by decide) rfl (fun ls hl => ?_)
            refine lv_iload hx hb dX11_bestRound_111 (lv_at hl 5 rfl) ?_
            refine lv_istore_n (lv' := [(3, .int p31_l5), (2, .int v81), (1, .int v57), (0, .ref a0), (4, .int v23), (5, .int p31_l5), (6, .int v57), (7, .int v81)]) hx hb dX11_bestRound_113 rfl hl (by decide) rfl (fun ls hl => ?_)
            exact J114 _ _ _ w105 v57 v81 p31_l5 hw hM (by omega) (by omega) (by omega) (by omega) (by omega) (by omega) f_a0_X11_5 f_v10_X0_5 f_v17_X8_0 f_v7_X10_0 f_v7_X10_1 (lv_sub hl [3, 2, 1, 0, 4, 5, 6] rfl)
          refine lv_icmp_gt (tgt := 105) hx hb dX11_bestRound_96 (by decide) (fun c_96 => ?_) (fun c_96 => ?_)
          · simp only [fa_lt, fa_le, fa_eq] at c_96
            exact J105 _ _ _ w_3 hw hM f_a0_X11_5 f_v10_X0_5 f_v17_X8_0 f_v7_X10_0 f_v7_X10_1 (lv_sub hl [2, 3, 4, 5, 6, 7, 1, 0] rfl)
          · simp only [fa_lt, fa_le, fa_eq] at c_96
            refine lv_iload hx hb dX11_bestRound_99 (lv_at hl 0 rfl) ?_
            refine lv_iload_n hx hb dX11_bestRound_101 rfl (lv_at hl 4 rfl) ?_
            refine lv_icmp_ge (tgt := 114) hx hb dX11_bestRound_102 (by decide) (fun c_102 => ?_) (fun c_102 => ?_)
            · simp only [fa_lt, fa_le, fa_eq] at c_102
              exact J114 _ _ _ w_3 p31_l1 p31_l2 p31_l3 hw hM (by omega) (by omega) (by omega) (by omega) (by omega) (by omega) f_a0_X11_5 f_v10_X0_5 f_v17_X8_0 f_v7_X10_0 f_v7_X10_1 (lv_sub hl [2, 3, 4, 5, 6, 7, 1] rfl)
            · simp only [fa_lt, fa_le, fa_eq] at c_102
              exact J105 _ _ _ w_3 hw hM f_a0_X11_5 f_v10_X0_5 f_v17_X8_0 f_v7_X10_0 f_v7_X10_1 (lv_sub hl [2, 3, 4, 5, 6, 7, 1, 0] rfl)
      · simp only [fa_lt, fa_le, fa_eq] at c_65
        refine lv_goto (tgt := 114) hx hb dX11_bestRound_68 (by decide) ?_
        exact J114 _ _ _ w_2 p31_l1 p31_l2 p31_l3 hw hM (by omega) (by omega) (by omega) (by omega) (by omega) (by omega) f_a0_X11_5 f_v10_X0_5 f_v17_X8_0 f_v7_X10_0 f_v7_X10_1 (lv_sub hl [1, 2, 3, 4, 5, 6, 0] rfl)
  exact J31 _ _ _ _ ⟨w_1, 0, 0, 0, 1, hw, hM, (by decide), (by decide), (by decide), (by decide), (by decide), (by decide), (by decide), (by decide), f_a0_X11_5, f_v17_X8_0, f_v7_X10_0, f_v7_X10_1, (lv_sub hl [5, 4, 3, 2, 1, 0] rfl), rfl⟩
set_option maxHeartbeats 4000000 in
set_option maxRecDepth 100000 in
theorem t_X11_boy (l : Launch) (dC : Nat → ClassId) (dI : Nat → Nat → Nat) (tys : List (ClassId × FieldType)) (κ : tK) (B : Nat) (ws : va_W) (hT : Ty κ tys B ws) (a0 : Nat) (k_a0 : κ a0 = some 11) (a1 : Int32) (a2 : Int32) (sz : Nat) : Met l yX11_boy (ws_u yX11_boy cX11_boy 3 (some .int)) ({ frames := 1, cells := 0, slots := 0, locals := 21 }) (va_Pc [.ref a0, .int a1, .int a2] (cPre (dC, dI) tys ws sz)) (va_Qi (fun (r : Int32) (w : va_W) => Ty κ tys B w ∧ Sm [] [] κ ws w) (fun w t => cPost (dC, dI) tys w (va_A ws sz) t) (va_A ws sz)) 0 0 (va_A ws sz) := by
  refine Met.ofW (cc := cX11_boy) (maxL := 3) (ret := (some .int)) (by decide) rfl ?_
  intro p e s m args below meth c s₁ B0 hml hv
  obtain ⟨rfl, hsz, hP, hK, hD0, hE⟩ := hv
  have hx := B0.exec
  have hb := B0.bytes
  have hr := B0.returns
  have hts0 := atoms_spec (ws := ws_u yX11_boy cX11_boy 3 (some .int)) B0.pre
  have hts : ∀ w ∈ gT, w.before _ s = true := fun w h => hts0 w (List.mem_cons_of_mem _ h)
  have hown : s.vm.findClass RX11 = some m.cls := findClass_of_methodNamed B0.named
  have hlocks := B0.notSynchronized
  subst hsz
  have hD := hD0.self (sz := s.heap.size)
  generalize hAe : va_A ws s.heap.size = A at hD ⊢
  have hA : ∀ q : Nat, s.heap.size ≤ q → A q := fun q h => by rw [← hAe]; exact Or.inr h
  have hw : tW (dC, dI) tys κ B A s ws s.heap [] := ⟨hK, hP, hD, va_S.rf, hT⟩
  have hM : Sm [] [] κ ws ws := Sm.rf
  clear hP hK hD hD0 hts0
  have l_a1 := i32_lo a1
  have h_a1 := i32_hi a1
  have l_a2 := i32_lo a2
  have h_a2 := i32_hi a2
  have hl := lv_entry ([.ref a0, .int a1, .int a2]) (n := 3) (Nat.le_of_ble_eq_true rfl)
  rw [lg_entry_eq]
  generalize (lg_sl ([.ref a0, .int a1, .int a2]) ++ List.replicate (3 - (lg_sl ([.ref a0, .int a1, .int a2])).length) Slot.unset).toArray = ls at hl ⊢
  have hl : lv_has ls 3 [(0, .ref a0), (1, .int a1), (2, .int a2)] := hl
  refine t_start (fun QQ hQ => ?_)
  refine lv_aload_n hx hb dX11_boy_0 rfl (lv_at hl 0 rfl) ?_
  refine lv_iload_n hx hb dX11_boy_1 rfl (lv_at hl 1 rfl) ?_
  refine t_calli (va_runV (As := [.int a1]) (rest := []) ⟨hx, hb, hml, hown, hts⟩ (t_X11_isBoy l dC dI tys κ B ws hw.2.2.2.2 a0 k_a0 a1 s.heap.size) (cwV 1 hts (gUV tw_710 tw_712 ts_0_15 tw_1 tw_713) rfl rfl rfl (by decide +kernel) ⟨(Nat.le_of_ble_eq_true rfl), (Nat.le_of_ble_eq_true rfl)⟩) ⟨cPre.blind, t_recv hw (ci := 11) k_a0 rfl rfl, cPre.use hw.2.1 hw.1 hw.2.2.1 hE⟩ rfl rfl hl.1 rfl (lv_room (Nat.le_of_ble_eq_true rfl)) dX11_boy_2 ⟨(Nat.le_of_ble_eq_true rfl), (Nat.le_of_ble_eq_true rfl)⟩) hw hA (fun _ _ h => h.2.2.1) (fun v2 w_1 H locs hp hw => ?_)
  obtain ⟨l_v2, h_v2, _, hm, x_v2_0⟩ := hp
  have hM := hM.trans hm (by decide) (by decide)
  refine lv_if_ne (tgt := 10) hx hb dX11_boy_5 (by decide) (fun c_5 => ?_) (fun c_5 => ?_)
  · simp only [fa_lt, fa_le, fa_eq, li_0] at c_5
    refine lv_iload_n hx hb dX11_boy_10 rfl (lv_at hl 2 rfl) ?_
    rcases Classical.em (a2.toInt = 0) with c_11_0 | c_11_0
    · refine lv_tableIn (tgt := 40) hx hb dX11_boy_11 (by omega) (by omega) (by rw [c_11_0]; rfl) (by decide) ?_
      refine lv_aload_n hx hb dX11_boy_40 rfl (lv_at hl 0 rfl) ?_
      refine t_getr (k1 := 10) (ci := 11) (C := RX11) (T := TX11) (N := 12) hx hb hts iX11 hown hw k_a0 rfl rfl rfl 5 (by decide) (hts _ tw_428) (fun _ h9 => h9) dX11_boy_41 rfl (fun v41 k_v41 f_a0_X11_5 => ?_)
      refine t_getr (k1 := 8) (ci := 10) (C := RX10) (T := TX10) (N := 8) hx hb hts iX10 hown hw k_v41 rfl rfl rfl 1 (by decide) (hts _ tw_285) (fun _ h9 => h9) dX11_boy_44 rfl (fun v44 k_v44 f_v41_X10_1 => ?_)
      refine t_getr (k1 := 43) (ci := 8) (C := RX8) (T := TX8) (N := 13) hx hb hts iX8 hown hw k_v44 rfl rfl rfl 7 (by decide) (hts _ tw_241) (fun _ h9 => h9) dX11_boy_47 rfl (fun v47 k_v47 f_v44_X8_7 => ?_)
      refine lv_iload_n hx hb dX11_boy_50 rfl (lv_at hl 1 rfl) ?_
      refine t_iald hx hb hw k_v47 rfl rfl (by omega) (show a1.toInt < 6 by omega) dX11_boy_51 (fun v51 r_v51 s_v51 q_v51 => ?_)
      have l_v51 := i32_lo v51
      have h_v51 := i32_hi v51
      rw [hQ]
      refine W.widen (k := 0) (n := 0) (Nat.le_refl _) (Nat.le_refl _) ?_
      exact W.iret (v := v51) hx hb hr (fun t ht hW => ⟨⟨v51, w_1, rfl, ⟨hw.2.2.2.2, hM⟩, by rw [ht]; exact hw.2.1, va_K.moved hW.alike hw.1, hw.2.2.1⟩, hw.2.2.2.1.F ht⟩) hw.2.2.2.1.2.2 dX11_boy_52
    rcases Classical.em (a2.toInt = 1) with c_11_1 | c_11_1
    · refine lv_tableIn (tgt := 53) hx hb dX11_boy_11 (by omega) (by omega) (by rw [c_11_1]; rfl) (by decide) ?_
      refine lv_aload_n hx hb dX11_boy_53 rfl (lv_at hl 0 rfl) ?_
      refine t_getr (k1 := 10) (ci := 11) (C := RX11) (T := TX11) (N := 12) hx hb hts iX11 hown hw k_a0 rfl rfl rfl 5 (by decide) (hts _ tw_428) (fun _ h9 => h9) dX11_boy_54 rfl (fun v54 k_v54 f_a0_X11_5 => ?_)
      refine t_getr (k1 := 8) (ci := 10) (C := RX10) (T := TX10) (N := 8) hx hb hts iX10 hown hw k_v54 rfl rfl rfl 1 (by decide) (hts _ tw_285) (fun _ h9 => h9) dX11_boy_57 rfl (fun v57 k_v57 f_v54_X10_1 => ?_)
      refine t_getr (k1 := 44) (ci := 8) (C := RX8) (T := TX8) (N := 13) hx hb hts iX8 hown hw k_v57 rfl rfl rfl 8 (by decide) (hts _ tw_244) (fun _ h9 => h9) dX11_boy_60 rfl (fun v60 k_v60 f_v57_X8_8 => ?_)
      refine lv_iload_n hx hb dX11_boy_63 rfl (lv_at hl 1 rfl) ?_
      refine t_iald hx hb hw k_v60 rfl rfl (by omega) (show a1.toInt < 6 by omega) dX11_boy_64 (fun v64 r_v64 s_v64 q_v64 => ?_)
      have l_v64 := i32_lo v64
      have h_v64 := i32_hi v64
      rw [hQ]
      refine W.widen (k := 0) (n := 0) (Nat.le_refl _) (Nat.le_refl _) ?_
      exact W.iret (v := v64) hx hb hr (fun t ht hW => ⟨⟨v64, w_1, rfl, ⟨hw.2.2.2.2, hM⟩, by rw [ht]; exact hw.2.1, va_K.moved hW.alike hw.1, hw.2.2.1⟩, hw.2.2.2.1.F ht⟩) hw.2.2.2.1.2.2 dX11_boy_65
    rcases Classical.em (a2.toInt = 2) with c_11_2 | c_11_2
    · refine lv_tableIn (tgt := 66) hx hb dX11_boy_11 (by omega) (by omega) (by rw [c_11_2]; rfl) (by decide) ?_
      refine lv_aload_n hx hb dX11_boy_66 rfl (lv_at hl 0 rfl) ?_
      refine t_getr (k1 := 10) (ci := 11) (C := RX11) (T := TX11) (N := 12) hx hb hts iX11 hown hw k_a0 rfl rfl rfl 5 (by decide) (hts _ tw_428) (fun _ h9 => h9) dX11_boy_67 rfl (fun v67 k_v67 f_a0_X11_5 => ?_)
      refine t_getr (k1 := 0) (ci := 10) (C := RX10) (T := TX10) (N := 8) hx hb hts iX10 hown hw k_v67 rfl rfl rfl 0 (by decide) (hts _ tw_282) (fun _ h9 => h9) dX11_boy_70 rfl (fun v70 k_v70 f_v67_X10_0 => ?_)
      refine t_getr (k1 := 22) (ci := 0) (C := RX0) (T := TX0) (N := 16) hx hb hts iX0 hown hw k_v70 rfl rfl rfl 8 (by decide) (hts _ tw_100) (fun _ h9 => h9) dX11_boy_73 rfl (fun v73 k_v73 f_v70_X0_8 => ?_)
      refine lv_iload_n hx hb dX11_boy_76 rfl (lv_at hl 1 rfl) ?_
      refine t_iald hx hb hw k_v73 rfl rfl (by omega) (show a1.toInt < 6 by omega) dX11_boy_77 (fun v77 r_v77 s_v77 q_v77 => ?_)
      have l_v77 := i32_lo v77
      have h_v77 := i32_hi v77
      rw [hQ]
      refine W.widen (k := 0) (n := 0) (Nat.le_refl _) (Nat.le_refl _) ?_
      exact W.iret (v := v77) hx hb hr (fun t ht hW => ⟨⟨v77, w_1, rfl, ⟨hw.2.2.2.2, hM⟩, by rw [ht]; exact hw.2.1, va_K.moved hW.alike hw.1, hw.2.2.1⟩, hw.2.2.2.1.F ht⟩) hw.2.2.2.1.2.2 dX11_boy_78
    rcases Classical.em (a2.toInt = 3) with c_11_3 | c_11_3
    · refine lv_tableIn (tgt := 79) hx hb dX11_boy_11 (by omega) (by omega) (by rw [c_11_3]; rfl) (by decide) ?_
      refine lv_aload_n hx hb dX11_boy_79 rfl (lv_at hl 0 rfl) ?_
      refine t_getr (k1 := 10) (ci := 11) (C := RX11) (T := TX11) (N := 12) hx hb hts iX11 hown hw k_a0 rfl rfl rfl 5 (by decide) (hts _ tw_428) (fun _ h9 => h9) dX11_boy_80 rfl (fun v80 k_v80 f_a0_X11_5 => ?_)
      refine t_getr (k1 := 8) (ci := 10) (C := RX10) (T := TX10) (N := 8) hx hb hts iX10 hown hw k_v80 rfl rfl rfl 1 (by decide) (hts _ tw_285) (fun _ h9 => h9) dX11_boy_83 rfl (fun v83 k_v83 f_v80_X10_1 => ?_)
      refine t_getr (k1 := 45) (ci := 8) (C := RX8) (T := TX8) (N := 13) hx hb hts iX8 hown hw k_v83 rfl rfl rfl 9 (by decide) (hts _ tw_247) (fun _ h9 => h9) dX11_boy_86 rfl (fun v86 k_v86 f_v83_X8_9 => ?_)
      refine lv_iload_n hx hb dX11_boy_89 rfl (lv_at hl 1 rfl) ?_
      refine t_iald hx hb hw k_v86 rfl rfl (by omega) (show a1.toInt < 6 by omega) dX11_boy_90 (fun v90 r_v90 s_v90 q_v90 => ?_)
      have l_v90 := i32_lo v90
      have h_v90 := i32_hi v90
      rw [hQ]
      refine W.widen (k := 0) (n := 0) (Nat.le_refl _) (Nat.le_refl _) ?_
      exact W.iret (v := v90) hx hb hr (fun t ht hW => ⟨⟨v90, w_1, rfl, ⟨hw.2.2.2.2, hM⟩, by rw [ht]; exact hw.2.1, va_K.moved hW.alike hw.1, hw.2.2.1⟩, hw.2.2.2.1.F ht⟩) hw.2.2.2.1.2.2 dX11_boy_91
    · refine lv_tableOut (tgt := 92) hx hb dX11_boy_11 (by omega) (by decide) ?_
      refine lv_iconst (v := (-1)) hx hb dX11_boy_92 (by decide) ?_
      rw [hQ]
      refine W.widen (k := 0) (n := 0) (Nat.le_refl _) (Nat.le_refl _) ?_
      exact W.iret (v := (-1)) hx hb hr (fun t ht hW => ⟨⟨(-1), w_1, rfl, ⟨hw.2.2.2.2, hM⟩, by rw [ht]; exact hw.2.1, va_K.moved hW.alike hw.1, hw.2.2.1⟩, hw.2.2.2.1.F ht⟩) hw.2.2.2.1.2.2 dX11_boy_93
  · simp only [fa_lt, fa_le, fa_eq, li_0] at c_5
    refine lv_iconst (v := (-1)) hx hb dX11_boy_8 (by decide) ?_
    rw [hQ]
    refine W.widen (k := 0) (n := 0) (Nat.le_refl _) (Nat.le_refl _) ?_
    exact W.iret (v := (-1)) hx hb hr (fun t ht hW => ⟨⟨(-1), w_1, rfl, ⟨hw.2.2.2.2, hM⟩, by rw [ht]; exact hw.2.1, va_K.moved hW.alike hw.1, hw.2.2.1⟩, hw.2.2.2.1.F ht⟩) hw.2.2.2.1.2.2 dX11_boy_9
set_option maxHeartbeats 4000000 in
set_option maxRecDepth 100000 in
theorem t_X11_isSinging (l : Launch) (dC : Nat → ClassId) (dI : Nat → Nat → Nat) (tys : List (ClassId × FieldType)) (κ : tK) (B : Nat) (ws : va_W) (hT : Ty κ tys B ws) (a0 : Nat) (k_a0 : κ a0 = some 11) (a1 : Int32) (sz : Nat) : Met l yX11_isSinging (ws_u yX11_isSinging cX11_isSinging 2 (some .boolean)) ({ frames := 1, cells := 0, slots := 0, locals := 21 }) (va_Pc [.ref a0, .int a1] (cPre (dC, dI) tys ws sz)) (va_Qi (fun (r : Int32) (w : va_W) => 0 ≤ r.toInt ∧ r.toInt ≤ 1 ∧ Ty κ tys B w ∧ Sm [] [] κ ws w ∧ (r.toInt = 0 ∨ 0 ≤ a1.toInt ∧ a1.toInt ≤ 5)) (fun w t => cPost (dC, dI) tys w (va_A ws sz) t) (va_A ws sz)) 0 0 (va_A ws sz) := by
  refine Met.ofW (cc := cX11_isSinging) (maxL := 2) (ret := (some .boolean)) (by decide) rfl ?_
  intro p e s m args below meth c s₁ B0 hml hv
  obtain ⟨rfl, hsz, hP, hK, hD0, hE⟩ := hv
  have hx := B0.exec
  have hb := B0.bytes
  have hr := B0.returns
  have hts0 := atoms_spec (ws := ws_u yX11_isSinging cX11_isSinging 2 (some .boolean)) B0.pre
  have hts : ∀ w ∈ gT, w.before _ s = true := fun w h => hts0 w (List.mem_cons_of_mem _ h)
  have hown : s.vm.findClass RX11 = some m.cls := findClass_of_methodNamed B0.named
  have hlocks := B0.notSynchronized
  subst hsz
  have hD := hD0.self (sz := s.heap.size)
  generalize hAe : va_A ws s.heap.size = A at hD ⊢
  have hA : ∀ q : Nat, s.heap.size ≤ q → A q := fun q h => by rw [← hAe]; exact Or.inr h
  have hw : tW (dC, dI) tys κ B A s ws s.heap [] := ⟨hK, hP, hD, va_S.rf, hT⟩
  have hM : Sm [] [] κ ws ws := Sm.rf
  clear hP hK hD hD0 hts0
  have l_a1 := i32_lo a1
  have h_a1 := i32_hi a1
  have hl := lv_entry ([.ref a0, .int a1]) (n := 2) (Nat.le_of_ble_eq_true rfl)
  rw [lg_entry_eq]
  generalize (lg_sl ([.ref a0, .int a1]) ++ List.replicate (2 - (lg_sl ([.ref a0, .int a1])).length) Slot.unset).toArray = ls at hl ⊢
  have hl : lv_has ls 2 [(0, .ref a0), (1, .int a1)] := hl
  refine t_start (fun QQ hQ => ?_)
  refine lv_aload_n hx hb dX11_isSinging_0 rfl (lv_at hl 0 rfl) ?_
  refine lv_iload_n hx hb dX11_isSinging_1 rfl (lv_at hl 1 rfl) ?_
  refine t_calli (va_runV (As := [.int a1]) (rest := []) ⟨hx, hb, hml, hown, hts⟩ (t_X11_isBoy l dC dI tys κ B ws hw.2.2.2.2 a0 k_a0 a1 s.heap.size) (cwV 1 hts (gUV tw_710 tw_712 ts_0_15 tw_1 tw_713) rfl rfl rfl (by decide +kernel) ⟨(Nat.le_of_ble_eq_true rfl), (Nat.le_of_ble_eq_true rfl)⟩) ⟨cPre.blind, t_recv hw (ci := 11) k_a0 rfl rfl, cPre.use hw.2.1 hw.1 hw.2.2.1 hE⟩ rfl rfl hl.1 rfl (lv_room (Nat.le_of_ble_eq_true rfl)) dX11_isSinging_2 ⟨(Nat.le_of_ble_eq_true rfl), (Nat.le_of_ble_eq_true rfl)⟩) hw hA (fun _ _ h => h.2.2.1) (fun v2 w_1 H locs hp hw => ?_)
  obtain ⟨l_v2, h_v2, _, hm, x_v2_0⟩ := hp
  have hM := hM.trans hm (by decide) (by decide)
  refine lv_if_eq (tgt := 27) hx hb dX11_isSinging_5 (by decide) (fun c_5 => ?_) (fun c_5 => ?_)
  · simp only [fa_lt, fa_le, fa_eq, li_0] at c_5
    refine lv_iconst (v := 0) hx hb dX11_isSinging_27 (by decide) ?_
    rw [hQ]
    refine W.widen (k := 0) (n := 0) (Nat.le_refl _) (Nat.le_refl _) ?_
    exact W.zret (v := 0) hx hb hr rfl (fun t ht hW => ⟨⟨0, w_1, rfl, ⟨(by decide), (by decide), hw.2.2.2.2, hM, (by have := li_0; omega)⟩, by rw [ht]; exact hw.2.1, va_K.moved hW.alike hw.1, hw.2.2.1⟩, hw.2.2.2.1.F ht⟩) hw.2.2.2.1.2.2 dX11_isSinging_28
  · simp only [fa_lt, fa_le, fa_eq, li_0] at c_5
    refine lv_aload_n hx hb dX11_isSinging_8 rfl (lv_at hl 0 rfl) ?_
    refine t_getr (k1 := 10) (ci := 11) (C := RX11) (T := TX11) (N := 12) hx hb hts iX11 hown hw k_a0 rfl rfl rfl 5 (by decide) (hts _ tw_428) (fun _ h9 => h9) dX11_isSinging_9 rfl (fun v9 k_v9 f_a0_X11_5 => ?_)
    refine t_getr (k1 := 8) (ci := 10) (C := RX10) (T := TX10) (N := 8) hx hb hts iX10 hown hw k_v9 rfl rfl rfl 1 (by decide) (hts _ tw_285) (fun _ h9 => h9) dX11_isSinging_12 rfl (fun v12 k_v12 f_v9_X10_1 => ?_)
    refine t_getr (k1 := 43) (ci := 8) (C := RX8) (T := TX8) (N := 13) hx hb hts iX8 hown hw k_v12 rfl rfl rfl 7 (by decide) (hts _ tw_241) (fun _ h9 => h9) dX11_isSinging_15 rfl (fun v15 k_v15 f_v12_X8_7 => ?_)
    refine lv_iload_n hx hb dX11_isSinging_18 rfl (lv_at hl 1 rfl) ?_
    refine t_iald hx hb hw k_v15 rfl rfl (by omega) (show a1.toInt < 6 by omega) dX11_isSinging_19 (fun v19 r_v19 s_v19 q_v19 => ?_)
    have l_v19 := i32_lo v19
    have h_v19 := i32_hi v19
    refine lv_if_le (tgt := 27) hx hb dX11_isSinging_20 (by decide) (fun c_20 => ?_) (fun c_20 => ?_)
    · simp only [fa_lt, fa_le, fa_eq, li_0] at c_20
      refine lv_iconst (v := 0) hx hb dX11_isSinging_27 (by decide) ?_
      rw [hQ]
      refine W.widen (k := 0) (n := 0) (Nat.le_refl _) (Nat.le_refl _) ?_
      exact W.zret (v := 0) hx hb hr rfl (fun t ht hW => ⟨⟨0, w_1, rfl, ⟨(by decide), (by decide), hw.2.2.2.2, hM, (by have := li_0; omega)⟩, by rw [ht]; exact hw.2.1, va_K.moved hW.alike hw.1, hw.2.2.1⟩, hw.2.2.2.1.F ht⟩) hw.2.2.2.1.2.2 dX11_isSinging_28
    · simp only [fa_lt, fa_le, fa_eq, li_0] at c_20
      refine lv_iconst (v := 1) hx hb dX11_isSinging_23 (by decide) ?_
      refine lv_goto (tgt := 28) hx hb dX11_isSinging_24 (by decide) ?_
      rw [hQ]
      refine W.widen (k := 0) (n := 0) (Nat.le_refl _) (Nat.le_refl _) ?_
      exact W.zret (v := 1) hx hb hr rfl (fun t ht hW => ⟨⟨1, w_1, rfl, ⟨(by decide), (by decide), hw.2.2.2.2, hM, (by have := li_1; omega)⟩, by rw [ht]; exact hw.2.1, va_K.moved hW.alike hw.1, hw.2.2.1⟩, hw.2.2.2.1.F ht⟩) hw.2.2.2.1.2.2 dX11_isSinging_28
set_option maxHeartbeats 4000000 in
set_option maxRecDepth 100000 in
theorem t_X4_keep (l : Launch) (dC : Nat → ClassId) (dI : Nat → Nat → Nat) (tys : List (ClassId × FieldType)) (κ : tK) (B : Nat) (ws : va_W) (hT : Ty κ tys B ws) (a0 : Nat) (k_a0 : κ a0 = some 4) (a1 : Nat) (k_a1 : κ a1 = some 8) (f0 : Int32) (l_f0 : (-1) ≤ f0.toInt) (h_f0 : f0.toInt ≤ 5) (f_a1_X8_1 : fld ws a1 8 1 (.int f0)) (sz : Nat) : Met l yX4_keep (ws_u yX4_keep cX4_keep 2 none) ({ frames := 2, cells := 0, slots := 0, locals := 81 }) (va_Pc [.ref a0, .ref a1] (cPre (dC, dI) tys ws sz)) (va_Qv (fun (w : va_W) => Ty κ tys B w ∧ Sm [(4, 1), (4, 2), (8, 0), (8, 1), (8, 2), (8, 3), (8, 4), (8, 5), (8, 6)] [43, 44, 45, 46, 47, 48] κ ws w ∧ fld w a1 8 1 (.int f0)) (fun w t => cPost (dC, dI) tys w (va_A ws sz) t) (va_A ws sz)) 0 0 (va_A ws sz) := by
  refine Met.ofW (cc := cX4_keep) (maxL := 2) (ret := none) (by decide) rfl ?_
  intro p e s m args below meth c s₁ B0 hml hv
  obtain ⟨rfl, hsz, hP, hK, hD0, hE⟩ := hv
  have hx := B0.exec
  have hb := B0.bytes
  have hr := B0.returns
  have hts0 := atoms_spec (ws := ws_u yX4_keep cX4_keep 2 none) B0.pre
  have hts : ∀ w ∈ gT, w.before _ s = true := fun w h => hts0 w (List.mem_cons_of_mem _ h)
  have hown : s.vm.findClass RX4 = some m.cls := findClass_of_methodNamed B0.named
  have hlocks := B0.notSynchronized
  subst hsz
  have hD := hD0.self (sz := s.heap.size)
  generalize hAe : va_A ws s.heap.size = A at hD ⊢
  have hA : ∀ q : Nat, s.heap.size ≤ q → A q := fun q h => by rw [← hAe]; exact Or.inr h
  have hw : tW (dC, dI) tys κ B A s ws s.heap [] := ⟨hK, hP, hD, va_S.rf, hT⟩
  have hM : Sm [(4, 1), (4, 2), (8, 0), (8, 1), (8, 2), (8, 3), (8, 4), (8, 5), (8, 6)] [43, 44, 45, 46, 47, 48] κ ws ws := Sm.rf
  clear hP hK hD hD0 hts0
  have hl := lv_entry ([.ref a0, .ref a1]) (n := 2) (Nat.le_of_ble_eq_true rfl)
  rw [lg_entry_eq]
  generalize (lg_sl ([.ref a0, .ref a1]) ++ List.replicate (2 - (lg_sl ([.ref a0, .ref a1])).length) Slot.unset).toArray = ls at hl ⊢
  have hl : lv_has ls 2 [(0, .ref a0), (1, .ref a1)] := hl
  refine t_start (fun QQ hQ => ?_)
  refine lv_aload_n hx hb dX4_keep_0 rfl (lv_at hl 0 rfl) ?_
  refine t_getr (k1 := 32) (ci := 4) (C := RX4) (T := TX4) (N := 3) hx hb hts iX4 hown hw k_a0 rfl rfl rfl 0 (by decide) (hts _ tw_327) (fun _ h9 => h9) dX4_keep_1 rfl (fun v1 k_v1 f_a0_X4_0 => ?_)
  refine lv_aload_n hx hb dX4_keep_4 rfl (lv_at hl 0 rfl) ?_
  refine t_geti (ci := 4) (C := RX4) (T := TX4) (N := 3) hx hb hts iX4 hown hw k_a0 rfl rfl rfl 1 (by decide) (hts _ tw_328) (fun _ h9 => h9) dX4_keep_5 rfl (fun v5 l_v5 h_v5 f_a0_X4_1 => ?_)
  have l_v5 : 0 ≤ v5.toInt := l_v5
  have h_v5 : v5.toInt ≤ 19 := h_v5
  refine t_aald (C := RX8) hx hb hw k_v1 rfl rfl (by omega) (show v5.toInt < 20 by omega) dX4_keep_8 (fun v8 k_v8 => ?_)
  have k_v8 : κ v8 = some 8 := k_v8
  refine lv_aload_n hx hb dX4_keep_9 rfl (lv_at hl 1 rfl) ?_
  refine t_callv (va_runV (As := [.ref a1]) (rest := []) ⟨hx, hb, hml, hown, hts⟩ (t_X8_copyFrom l dC dI tys κ B ws hw.2.2.2.2 v8 k_v8 a1 k_a1 f0 (by omega) (by omega) f_a1_X8_1 s.heap.size) (cwV 1 hts (gUV tw_751 tw_752 tw_753 tw_8 tw_754) rfl rfl rfl (by decide +kernel) ⟨(Nat.le_of_ble_eq_true rfl), (Nat.le_of_ble_eq_true rfl)⟩) ⟨cPre.blind, t_recv hw (ci := 8) k_v8 rfl rfl, cPre.use hw.2.1 hw.1 hw.2.2.1 hE⟩ rfl rfl hl.1 rfl (lv_room (Nat.le_of_ble_eq_true rfl)) dX4_keep_10 ⟨(Nat.le_of_ble_eq_true rfl), (Nat.le_of_ble_eq_true rfl)⟩) hw hA (fun _ h => h.1) (fun w_1 H locs hp hw => ?_)
  obtain ⟨_, hm, f_a1_X8_1⟩ := hp
  have hM := hM.trans hm (by decide) (by decide)
  have f_a0_X4_0 := hm.1 _ _ _ _ f_a0_X4_0 (by decide)
  have f_a0_X4_1 := hm.1 _ _ _ _ f_a0_X4_1 (by decide)
  refine lv_aload_n hx hb dX4_keep_13 rfl (lv_at hl 0 rfl) ?_
  refine lv_aload_n hx hb dX4_keep_14 rfl (lv_at hl 0 rfl) ?_
  refine t_getk (ci := 4) (C := RX4) (T := TX4) (N := 3) hx hb hts iX4 hown hw rfl 1 (by decide) (hts _ tw_328) (fun _ h9 => h9) dX4_keep_15 f_a0_X4_1 ?_
  refine lv_iconst (v := 1) hx hb dX4_keep_18 (by decide) ?_
  refine lv_iadd hx hb dX4_keep_19 ?_
  refine lv_topi (fun v19 e_v19 => ?_)
  have e_v19 : v19.toInt = v5.toInt + 1 := ad_i e_v19 rfl li_1 (by omega) (by omega)
  refine lv_bipush (v := 20) hx hb dX4_keep_20 (by decide) ?_
  refine lv_irem hx hb dX4_keep_22 (ne_i li_20 (by decide)) ?_
  refine lv_topi (fun v22 e_v22 => ?_)
  have e_v22 : v22.toInt = v19.toInt % 20 := rm_i e_v22 rfl li_20 (by omega) (by decide)
  refine t_put (ci := 4) (C := RX4) (T := TX4) (N := 3) (v := .int v22) hx hb hts iX4 tyX4 tyX4_ok nmX4 hown hw k_a0 rfl rfl rfl 1 (by decide) (hts _ tw_328) (fun _ h9 => h9) rfl (tyX4_ok 1 (by decide)) rfl rfl (okV.int rfl (by omega) (by omega)) dX4_keep_23 (fun w_2 H locs hw u => ?_)
  have hM := hM.up1 u (by decide)
  have f_a0_X4_0 := u.1 _ _ _ _ f_a0_X4_0 (Or.inr (Or.inr (by decide)))
  have f_a0_X4_1 := u.2.2
  have f_a1_X8_1 := u.1 _ _ _ _ f_a1_X8_1 (Or.inr (Or.inl (by decide)))
  refine lv_aload_n hx hb dX4_keep_26 rfl (lv_at hl 0 rfl) ?_
  refine lv_bipush (v := 20) hx hb dX4_keep_27 (by decide) ?_
  refine lv_aload_n hx hb dX4_keep_29 rfl (lv_at hl 0 rfl) ?_
  refine t_geti (ci := 4) (C := RX4) (T := TX4) (N := 3) hx hb hts iX4 hown hw k_a0 rfl rfl rfl 2 (by decide) (hts _ tw_329) (fun _ h9 => h9) dX4_keep_30 rfl (fun v30 l_v30 h_v30 f_a0_X4_2 => ?_)
  have l_v30 : (-2147483648) ≤ v30.toInt := l_v30
  have h_v30 : v30.toInt ≤ 2147483647 := h_v30
  refine lv_iconst (v := 1) hx hb dX4_keep_33 (by decide) ?_
  refine lv_iadd hx hb dX4_keep_34 ?_
  refine lv_topi (fun v34 e_v34 => ?_)
  have l_v34 := i32_lo v34
  have h_v34 := i32_hi v34
  refine va_mmin hx hb (hml.trans hl.1.symm) hown (hts _ tw_755) (hts _ tw_615) (hts _ tw_19) (hts _ tw_616) (Nat.le_of_ble_eq_true rfl) (Nat.le_of_ble_eq_true rfl) (Nat.le_of_ble_eq_true rfl) (Nat.le_of_ble_eq_true rfl) dX4_keep_35 ?_
  refine lv_topi (fun v35 e_v35 => ?_)
  have g_v35 := mn_i e_v35 li_20 rfl
  refine t_put (ci := 4) (C := RX4) (T := TX4) (N := 3) (v := .int v35) hx hb hts iX4 tyX4 tyX4_ok nmX4 hown hw k_a0 rfl rfl rfl 2 (by decide) (hts _ tw_329) (fun _ h9 => h9) rfl (tyX4_ok 2 (by decide)) rfl rfl (okV.int rfl (by omega) (by omega)) dX4_keep_38 (fun w_3 H locs hw u => ?_)
  have hM := hM.up1 u (by decide)
  have f_a0_X4_0 := u.1 _ _ _ _ f_a0_X4_0 (Or.inr (Or.inr (by decide)))
  have f_a0_X4_1 := u.1 _ _ _ _ f_a0_X4_1 (Or.inr (Or.inr (by decide)))
  have f_a1_X8_1 := u.1 _ _ _ _ f_a1_X8_1 (Or.inr (Or.inl (by decide)))
  have f_a0_X4_2 := u.2.2
  rw [hQ]
  refine W.widen (k := 0) (n := 0) (Nat.le_refl _) (Nat.le_refl _) ?_
  exact W.vret hx hb hr (fun t ht hW => ⟨⟨w_3, rfl, ⟨hw.2.2.2.2, hM, f_a1_X8_1⟩, by rw [ht]; exact hw.2.1, va_K.moved hW.alike hw.1, hw.2.2.1⟩, hw.2.2.2.1.F ht⟩) hw.2.2.2.1.2.2 dX4_keep_41
set_option maxHeartbeats 4000000 in
set_option maxRecDepth 100000 in
theorem t_X11_breaks (l : Launch) (dC : Nat → ClassId) (dI : Nat → Nat → Nat) (tys : List (ClassId × FieldType)) (κ : tK) (B : Nat) (ws : va_W) (hT : Ty κ tys B ws) (a0 : Nat) (k_a0 : κ a0 = some 11) (a1 : Int32) (sz : Nat) : Met l yX11_breaks (ws_u yX11_breaks cX11_breaks 3 (some .int)) ({ frames := 3, cells := 0, slots := 0, locals := 102 }) (va_Pc [.ref a0, .int a1] (cPre (dC, dI) tys ws sz)) (va_Qi (fun (r : Int32) (w : va_W) => Ty κ tys B w ∧ Sm [(4, 1), (4, 2), (8, 0), (8, 1), (8, 2), (8, 3), (8, 4), (8, 5), (8, 6)] [43, 44, 45, 46, 47, 48] κ ws w) (fun w t => cPost (dC, dI) tys w (va_A ws sz) t) (va_A ws sz)) 0 0 (va_A ws sz) := by
  refine Met.ofW (cc := cX11_breaks) (maxL := 3) (ret := (some .int)) (by decide) rfl ?_
  intro p e s m args below meth c s₁ B0 hml hv
  obtain ⟨rfl, hsz, hP, hK, hD0, hE⟩ := hv
  have hx := B0.exec
  have hb := B0.bytes
  have hr := B0.returns
  have hts0 := atoms_spec (ws := ws_u yX11_breaks cX11_breaks 3 (some .int)) B0.pre
  have hts : ∀ w ∈ gT, w.before _ s = true := fun w h => hts0 w (List.mem_cons_of_mem _ h)
  have hown : s.vm.findClass RX11 = some m.cls := findClass_of_methodNamed B0.named
  have hlocks := B0.notSynchronized
  subst hsz
  have hD := hD0.self (sz := s.heap.size)
  generalize hAe : va_A ws s.heap.size = A at hD ⊢
  have hA : ∀ q : Nat, s.heap.size ≤ q → A q := fun q h => by rw [← hAe]; exact Or.inr h
  have hw : tW (dC, dI) tys κ B A s ws s.heap [] := ⟨hK, hP, hD, va_S.rf, hT⟩
  have hM : Sm [(4, 1), (4, 2), (8, 0), (8, 1), (8, 2), (8, 3), (8, 4), (8, 5), (8, 6)] [43, 44, 45, 46, 47, 48] κ ws ws := Sm.rf
  clear hP hK hD hD0 hts0
  have l_a1 := i32_lo a1
  have h_a1 := i32_hi a1
  have hl := lv_entry ([.ref a0, .int a1]) (n := 3) (Nat.le_of_ble_eq_true rfl)
  rw [lg_entry_eq]
  generalize (lg_sl ([.ref a0, .int a1]) ++ List.replicate (3 - (lg_sl ([.ref a0, .int a1])).length) Slot.unset).toArray = ls at hl ⊢
  have hl : lv_has ls 3 [(0, .ref a0), (1, .int a1)] := hl
  refine t_start (fun QQ hQ => ?_)
  refine lv_aload_n hx hb dX11_breaks_0 rfl (lv_at hl 0 rfl) ?_
  refine lv_iload_n hx hb dX11_breaks_1 rfl (lv_at hl 1 rfl) ?_
  refine t_calli (va_runV (As := [.int a1]) (rest := []) ⟨hx, hb, hml, hown, hts⟩ (t_X11_isSinging l dC dI tys κ B ws hw.2.2.2.2 a0 k_a0 a1 s.heap.size) (cwV 1 hts (gUV tw_878 tw_880 ts_1_15 tw_1 tw_881) rfl rfl rfl (by decide +kernel) ⟨(Nat.le_of_ble_eq_true rfl), (Nat.le_of_ble_eq_true rfl)⟩) ⟨cPre.blind, t_recv hw (ci := 11) k_a0 rfl rfl, cPre.use hw.2.1 hw.1 hw.2.2.1 hE⟩ rfl rfl hl.1 rfl (lv_room (Nat.le_of_ble_eq_true rfl)) dX11_breaks_2 ⟨(Nat.le_of_ble_eq_true rfl), (Nat.le_of_ble_eq_true rfl)⟩) hw hA (fun _ _ h => h.2.2.1) (fun v2 w_1 H locs hp hw => ?_)
  obtain ⟨l_v2, h_v2, _, hm, x_v2_0⟩ := hp
  have hM := hM.trans hm (by decide) (by decide)
  refine lv_if_ne (tgt := 10) hx hb dX11_breaks_5 (by decide) (fun c_5 => ?_) (fun c_5 => ?_)
  · simp only [fa_lt, fa_le, fa_eq, li_0] at c_5
    refine lv_aload_n hx hb dX11_breaks_10 rfl (lv_at hl 0 rfl) ?_
    refine t_getr (k1 := 4) (ci := 11) (C := RX11) (T := TX11) (N := 12) hx hb hts iX11 hown hw k_a0 rfl rfl rfl 7 (by decide) (hts _ tw_430) (fun _ h9 => h9) dX11_breaks_11 rfl (fun v11 k_v11 f_a0_X11_7 => ?_)
    refine lv_aload_n hx hb dX11_breaks_14 rfl (lv_at hl 0 rfl) ?_
    refine t_getr (k1 := 10) (ci := 11) (C := RX11) (T := TX11) (N := 12) hx hb hts iX11 hown hw k_a0 rfl rfl rfl 5 (by decide) (hts _ tw_428) (fun _ h9 => h9) dX11_breaks_15 rfl (fun v15 k_v15 f_a0_X11_5 => ?_)
    refine t_getr (k1 := 8) (ci := 10) (C := RX10) (T := TX10) (N := 8) hx hb hts iX10 hown hw k_v15 rfl rfl rfl 1 (by decide) (hts _ tw_285) (fun _ h9 => h9) dX11_breaks_18 rfl (fun v18 k_v18 f_v15_X10_1 => ?_)
    obtain ⟨u_v21q0, q_v21q0, f_v18_X8_1⟩ := t_peek (k := 1) hw.2.2.2.2 k_v18 rfl (by decide)
    obtain ⟨v21q0, rfl, l_v21q0, h_v21q0⟩ := q_v21q0.geti (lo := (-1)) (hi := 5) rfl
    refine t_callv (va_runV (As := [.ref v18]) (rest := []) ⟨hx, hb, hml, hown, hts⟩ (t_X4_keep l dC dI tys κ B w_1 hw.2.2.2.2 v11 k_v11 v18 k_v18 v21q0 (by omega) (by omega) f_v18_X8_1 H.size) (cwV 1 hts (gUV tw_747 tw_748 tw_749 tw_9 tw_750) rfl rfl rfl (by decide +kernel) ⟨(Nat.le_of_ble_eq_true rfl), (Nat.le_of_ble_eq_true rfl)⟩) ⟨cPre.blind, t_recv hw (ci := 4) k_v11 rfl rfl, cPre.use hw.2.1 hw.1 hw.2.2.1 hE⟩ rfl rfl hl.1 rfl (lv_room (Nat.le_of_ble_eq_true rfl)) dX11_breaks_21 ⟨(Nat.le_of_ble_eq_true rfl), (Nat.le_of_ble_eq_true rfl)⟩) hw hA (fun _ h => h.1) (fun w_2 H locs hp hw => ?_)
    obtain ⟨_, hm, f_v18_X8_1⟩ := hp
    have hM := hM.trans hm (by decide) (by decide)
    have f_a0_X11_7 := hm.1 _ _ _ _ f_a0_X11_7 (by decide)
    have f_a0_X11_5 := hm.1 _ _ _ _ f_a0_X11_5 (by decide)
    have f_v15_X10_1 := hm.1 _ _ _ _ f_v15_X10_1 (by decide)
    refine lv_aload_n hx hb dX11_breaks_24 rfl (lv_at hl 0 rfl) ?_
    refine t_getk (ci := 11) (C := RX11) (T := TX11) (N := 12) hx hb hts iX11 hown hw rfl 5 (by decide) (hts _ tw_428) (fun _ h9 => h9) dX11_breaks_25 f_a0_X11_5 ?_
    refine t_getk (ci := 10) (C := RX10) (T := TX10) (N := 8) hx hb hts iX10 hown hw rfl 1 (by decide) (hts _ tw_285) (fun _ h9 => h9) dX11_breaks_28 f_v15_X10_1 ?_
    refine t_getr (k1 := 43) (ci := 8) (C := RX8) (T := TX8) (N := 13) hx hb hts iX8 hown hw k_v18 rfl rfl rfl 7 (by decide) (hts _ tw_241) (fun _ h9 => h9) dX11_breaks_31 rfl (fun v31 k_v31 f_v18_X8_7 => ?_)
    refine lv_iload_n hx hb dX11_breaks_34 rfl (lv_at hl 1 rfl) ?_
    refine t_iald hx hb hw k_v31 rfl rfl (by omega) (show a1.toInt < 6 by omega) dX11_breaks_35 (fun v35 r_v35 s_v35 q_v35 => ?_)
    have l_v35 := i32_lo v35
    have h_v35 := i32_hi v35
    refine lv_istore_n (lv' := [(2, .int v35), (0, .ref a0), (1, .int a1)]) hx hb dX11_breaks_36 rfl hl (by decide) rfl (fun ls hl => ?_)
    refine lv_aload_n hx hb dX11_breaks_37 rfl (lv_at hl 1 rfl) ?_
    refine t_getk (ci := 11) (C := RX11) (T := TX11) (N := 12) hx hb hts iX11 hown hw rfl 5 (by decide) (hts _ tw_428) (fun _ h9 => h9) dX11_breaks_38 f_a0_X11_5 ?_
    refine t_getk (ci := 10) (C := RX10) (T := TX10) (N := 8) hx hb hts iX10 hown hw rfl 1 (by decide) (hts _ tw_285) (fun _ h9 => h9) dX11_breaks_41 f_v15_X10_1 ?_
    refine t_getk (ci := 8) (C := RX8) (T := TX8) (N := 13) hx hb hts iX8 hown hw rfl 7 (by decide) (hts _ tw_241) (fun _ h9 => h9) dX11_breaks_44 f_v18_X8_7 ?_
    refine lv_iload_n hx hb dX11_breaks_47 rfl (lv_at hl 2 rfl) ?_
    refine lv_iconst (v := 0) hx hb dX11_breaks_48 (by decide) ?_
    refine t_iast hx hb hw k_v31 rfl rfl (by omega) (show a1.toInt < 6 by omega) (i32_lo _) (i32_hi _) dX11_breaks_49 (fun w_3 H locs hw u => ?_)
    have hM := hM.up3 u k_v31 (by decide)
    have f_a0_X11_7 := u.1 _ _ _ _ f_a0_X11_7
    have f_a0_X11_5 := u.1 _ _ _ _ f_a0_X11_5
    have f_v15_X10_1 := u.1 _ _ _ _ f_v15_X10_1
    have f_v18_X8_1 := u.1 _ _ _ _ f_v18_X8_1
    have f_v18_X8_7 := u.1 _ _ _ _ f_v18_X8_7
    refine lv_iload_n hx hb dX11_breaks_50 rfl (lv_at hl 0 rfl) ?_
    rw [hQ]
    refine W.widen (k := 0) (n := 0) (Nat.le_refl _) (Nat.le_refl _) ?_
    exact W.iret (v := v35) hx hb hr (fun t ht hW => ⟨⟨v35, w_3, rfl, ⟨hw.2.2.2.2, hM⟩, by rw [ht]; exact hw.2.1, va_K.moved hW.alike hw.1, hw.2.2.1⟩, hw.2.2.2.1.F ht⟩) hw.2.2.2.1.2.2 dX11_breaks_51
  · simp only [fa_lt, fa_le, fa_eq, li_0] at c_5
    refine lv_iconst (v := (-1)) hx hb dX11_breaks_8 (by decide) ?_
    rw [hQ]
    refine W.widen (k := 0) (n := 0) (Nat.le_refl _) (Nat.le_refl _) ?_
    exact W.iret (v := (-1)) hx hb hr (fun t ht hW => ⟨⟨(-1), w_1, rfl, ⟨hw.2.2.2.2, hM⟩, by rw [ht]; exact hw.2.1, va_K.moved hW.alike hw.1, hw.2.2.1⟩, hw.2.2.2.1.F ht⟩) hw.2.2.2.1.2.2 dX11_breaks_9
set_option maxHeartbeats 4000000 in
set_option maxRecDepth 100000 in
theorem t_X11_canBeVisited (l : Launch) (dC : Nat → ClassId) (dI : Nat → Nat → Nat) (tys : List (ClassId × FieldType)) (κ : tK) (B : Nat) (ws : va_W) (hT : Ty κ tys B ws) (a0 : Nat) (k_a0 : κ a0 = some 11) (a1 : Int32) (l_a1 : 0 ≤ a1.toInt) (h_a1 : a1.toInt ≤ 5) (sz : Nat) : Met l yX11_canBeVisited (ws_u yX11_canBeVisited cX11_canBeVisited 3 (some .boolean)) ({ frames := 2, cells := 0, slots := 0, locals := 42 }) (va_Pc [.ref a0, .int a1] (cPre (dC, dI) tys ws sz)) (va_Qi (fun (r : Int32) (w : va_W) => 0 ≤ r.toInt ∧ r.toInt ≤ 1 ∧ Ty κ tys B w ∧ Sm [] [] κ ws w ∧ (∃ (xn : Nat) (xs : Nat) (xb : Int32), κ xn = some 10 ∧ κ xs = some 8 ∧ (-1) ≤ xb.toInt ∧ xb.toInt ≤ 5 ∧ fld w a0 11 5 (.ref xn) ∧ fld w xn 10 1 (.ref xs) ∧ fld w xs 8 1 (.int xb) ∧ (r.toInt = 0 ∨ (0 ≤ xb.toInt ∧ xb.toInt ≤ 5)))) (fun w t => cPost (dC, dI) tys w (va_A ws sz) t) (va_A ws sz)) 0 0 (va_A ws sz) := by
  refine Met.ofW (cc := cX11_canBeVisited) (maxL := 3) (ret := (some .boolean)) (by decide) rfl ?_
  intro p e s m args below meth c s₁ B0 hml hv
  obtain ⟨rfl, hsz, hP, hK, hD0, hE⟩ := hv
  have hx := B0.exec
  have hb := B0.bytes
  have hr := B0.returns
  have hts0 := atoms_spec (ws := ws_u yX11_canBeVisited cX11_canBeVisited 3 (some .boolean)) B0.pre
  have hts : ∀ w ∈ gT, w.before _ s = true := fun w h => hts0 w (List.mem_cons_of_mem _ h)
  have hown : s.vm.findClass RX11 = some m.cls := findClass_of_methodNamed B0.named
  have hlocks := B0.notSynchronized
  subst hsz
  have hD := hD0.self (sz := s.heap.size)
  generalize hAe : va_A ws s.heap.size = A at hD ⊢
  have hA : ∀ q : Nat, s.heap.size ≤ q → A q := fun q h => by rw [← hAe]; exact Or.inr h
  have hw : tW (dC, dI) tys κ B A s ws s.heap [] := ⟨hK, hP, hD, va_S.rf, hT⟩
  have hM : Sm [] [] κ ws ws := Sm.rf
  clear hP hK hD hD0 hts0
  have hl := lv_entry ([.ref a0, .int a1]) (n := 3) (Nat.le_of_ble_eq_true rfl)
  rw [lg_entry_eq]
  generalize (lg_sl ([.ref a0, .int a1]) ++ List.replicate (3 - (lg_sl ([.ref a0, .int a1])).length) Slot.unset).toArray = ls at hl ⊢
  have hl : lv_has ls 3 [(0, .ref a0), (1, .int a1)] := hl
  refine t_start (fun QQ hQ => ?_)
  refine lv_aload_n hx hb dX11_canBeVisited_0 rfl (lv_at hl 0 rfl) ?_
  refine t_getr (k1 := 10) (ci := 11) (C := RX11) (T := TX11) (N := 12) hx hb hts iX11 hown hw k_a0 rfl rfl rfl 5 (by decide) (hts _ tw_428) (fun _ h9 => h9) dX11_canBeVisited_1 rfl (fun v1 k_v1 f_a0_X11_5 => ?_)
  refine t_getr (k1 := 8) (ci := 10) (C := RX10) (T := TX10) (N := 8) hx hb hts iX10 hown hw k_v1 rfl rfl rfl 1 (by decide) (hts _ tw_285) (fun _ h9 => h9) dX11_canBeVisited_4 rfl (fun v4 k_v4 f_v1_X10_1 => ?_)
  refine lv_astore_n (lv' := [(2, .ref v4), (0, .ref a0), (1, .int a1)]) hx hb dX11_canBeVisited_7 rfl hl (by decide) rfl (fun ls hl => ?_)
  refine lv_aload_n hx hb dX11_canBeVisited_8 rfl (lv_at hl 1 rfl) ?_
  refine lv_aload_n hx hb dX11_canBeVisited_9 rfl (lv_at hl 0 rfl) ?_
  refine t_geti (ci := 8) (C := RX8) (T := TX8) (N := 13) hx hb hts iX8 hown hw k_v4 rfl rfl rfl 1 (by decide) (hts _ tw_226) (fun _ h9 => h9) dX11_canBeVisited_10 rfl (fun v10 l_v10 h_v10 f_v4_X8_1 => ?_)
  have l_v10 : (-1) ≤ v10.toInt := l_v10
  have h_v10 : v10.toInt ≤ 5 := h_v10
  refine t_calli (va_runV (As := [.int v10]) (rest := []) ⟨hx, hb, hml, hown, hts⟩ (t_X11_isBoy l dC dI tys κ B ws hw.2.2.2.2 a0 k_a0 v10 s.heap.size) (cwV 1 hts (gUV tw_710 tw_712 ts_0_15 tw_1 tw_713) rfl rfl rfl (by decide +kernel) ⟨(Nat.le_of_ble_eq_true rfl), (Nat.le_of_ble_eq_true rfl)⟩) ⟨cPre.blind, t_recv hw (ci := 11) k_a0 rfl rfl, cPre.use hw.2.1 hw.1 hw.2.2.1 hE⟩ rfl rfl hl.1 rfl (lv_room (Nat.le_of_ble_eq_true rfl)) dX11_canBeVisited_13 ⟨(Nat.le_of_ble_eq_true rfl), (Nat.le_of_ble_eq_true rfl)⟩) hw hA (fun _ _ h => h.2.2.1) (fun v13 w_1 H locs hp hw => ?_)
  obtain ⟨l_v13, h_v13, _, hm, x_v13_0⟩ := hp
  have hM := hM.trans hm (by decide) (by decide)
  have f_a0_X11_5 := hm.1 _ _ _ _ f_a0_X11_5 (by decide)
  have f_v1_X10_1 := hm.1 _ _ _ _ f_v1_X10_1 (by decide)
  have f_v4_X8_1 := hm.1 _ _ _ _ f_v4_X8_1 (by decide)
  refine lv_if_eq (tgt := 26) hx hb dX11_canBeVisited_16 (by decide) (fun c_16 => ?_) (fun c_16 => ?_)
  · simp only [fa_lt, fa_le, fa_eq, li_0] at c_16
    refine lv_iconst (v := 0) hx hb dX11_canBeVisited_26 (by decide) ?_
    rw [hQ]
    refine W.widen (k := 0) (n := 0) (Nat.le_refl _) (Nat.le_refl _) ?_
    exact W.zret (v := 0) hx hb hr rfl (fun t ht hW => ⟨⟨0, w_1, rfl, ⟨(by decide), (by decide), hw.2.2.2.2, hM, ⟨v1, v4, v10, k_v1, k_v4, (by omega), (by omega), f_a0_X11_5, f_v1_X10_1, f_v4_X8_1, (by have := li_0; omega)⟩⟩, by rw [ht]; exact hw.2.1, va_K.moved hW.alike hw.1, hw.2.2.1⟩, hw.2.2.2.1.F ht⟩) hw.2.2.2.1.2.2 dX11_canBeVisited_27
  · simp only [fa_lt, fa_le, fa_eq, li_0] at c_16
    refine lv_aload_n hx hb dX11_canBeVisited_19 rfl (lv_at hl 0 rfl) ?_
    refine t_geti (ci := 8) (C := RX8) (T := TX8) (N := 13) hx hb hts iX8 hown hw k_v4 rfl rfl rfl 3 (by decide) (hts _ tw_230) (fun _ h9 => h9) dX11_canBeVisited_20 rfl (fun v20 l_v20 h_v20 f_v4_X8_3 => ?_)
    have l_v20 : 0 ≤ v20.toInt := l_v20
    have h_v20 : v20.toInt ≤ 1 := h_v20
    refine lv_if_eq (tgt := 28) hx hb dX11_canBeVisited_23 (by decide) (fun c_23 => ?_) (fun c_23 => ?_)
    · simp only [fa_lt, fa_le, fa_eq, li_0] at c_23
      refine lv_iconst (v := 2) hx hb dX11_canBeVisited_28 (by decide) ?_
      refine lv_aload_n hx hb dX11_canBeVisited_29 rfl (lv_at hl 1 rfl) ?_
      refine t_getk (ci := 11) (C := RX11) (T := TX11) (N := 12) hx hb hts iX11 hown hw rfl 5 (by decide) (hts _ tw_428) (fun _ h9 => h9) dX11_canBeVisited_30 f_a0_X11_5 ?_
      refine t_getr (k1 := 0) (ci := 10) (C := RX10) (T := TX10) (N := 8) hx hb hts iX10 hown hw k_v1 rfl rfl rfl 0 (by decide) (hts _ tw_282) (fun _ h9 => h9) dX11_canBeVisited_33 rfl (fun v33 k_v33 f_v1_X10_0 => ?_)
      refine lv_iconst (v := 0) hx hb dX11_canBeVisited_36 (by decide) ?_
      refine lv_iload_n hx hb dX11_canBeVisited_37 rfl (lv_at hl 2 rfl) ?_
      refine lv_iconst (v := 1) hx hb dX11_canBeVisited_38 (by decide) ?_
      refine lv_iadd hx hb dX11_canBeVisited_39 ?_
      refine lv_topi (fun v39 e_v39 => ?_)
      have e_v39 : v39.toInt = a1.toInt + 1 := ad_i e_v39 rfl li_1 (by omega) (by omega)
      refine t_calli (va_runV (As := [.int 0, .int v39]) (rest := [.int 2]) ⟨hx, hb, hml, hown, hts⟩ (t_X0_hoursBetween l dC dI tys κ B w_1 hw.2.2.2.2 v33 k_v33 0 (by decide) (by decide) v39 (by omega) (by omega) H.size) (cwV 2 hts (gUV tw_738 tw_739 tw_740 tw_4 tw_741) rfl rfl rfl (by decide +kernel) ⟨(Nat.le_of_ble_eq_true rfl), (Nat.le_of_ble_eq_true rfl)⟩) ⟨cPre.blind, t_recv hw (ci := 0) k_v33 rfl rfl, cPre.use hw.2.1 hw.1 hw.2.2.1 hE⟩ rfl rfl hl.1 rfl (lv_room (Nat.le_of_ble_eq_true rfl)) dX11_canBeVisited_40 ⟨(Nat.le_of_ble_eq_true rfl), (Nat.le_of_ble_eq_true rfl)⟩) hw hA (fun _ _ h => h.1) (fun v40 w_2 H locs hp hw => ?_)
      obtain ⟨_, hm⟩ := hp
      have l_v40 := i32_lo v40
      have h_v40 := i32_hi v40
      have hM := hM.trans hm (by decide) (by decide)
      have f_a0_X11_5 := hm.1 _ _ _ _ f_a0_X11_5 (by decide)
      have f_v1_X10_1 := hm.1 _ _ _ _ f_v1_X10_1 (by decide)
      have f_v4_X8_1 := hm.1 _ _ _ _ f_v4_X8_1 (by decide)
      have f_v4_X8_3 := hm.1 _ _ _ _ f_v4_X8_3 (by decide)
      have f_v1_X10_0 := hm.1 _ _ _ _ f_v1_X10_0 (by decide)
      refine lv_imul hx hb dX11_canBeVisited_43 ?_
      refine lv_topi (fun v43 e_v43 => ?_)
      have l_v43 := i32_lo v43
      have h_v43 := i32_hi v43
      refine lv_aload_n hx hb dX11_canBeVisited_44 rfl (lv_at hl 1 rfl) ?_
      refine t_getk (ci := 11) (C := RX11) (T := TX11) (N := 12) hx hb hts iX11 hown hw rfl 5 (by decide) (hts _ tw_428) (fun _ h9 => h9) dX11_canBeVisited_45 f_a0_X11_5 ?_
      refine t_getk (ci := 10) (C := RX10) (T := TX10) (N := 8) hx hb hts iX10 hown hw rfl 0 (by decide) (hts _ tw_282) (fun _ h9 => h9) dX11_canBeVisited_48 f_v1_X10_0 ?_
      refine lv_aload_n hx hb dX11_canBeVisited_51 rfl (lv_at hl 0 rfl) ?_
      refine t_geti (ci := 8) (C := RX8) (T := TX8) (N := 13) hx hb hts iX8 hown hw k_v4 rfl rfl rfl 0 (by decide) (hts _ tw_222) (fun _ h9 => h9) dX11_canBeVisited_52 rfl (fun v52 l_v52 h_v52 f_v4_X8_0 => ?_)
      have l_v52 : (-2147483648) ≤ v52.toInt := l_v52
      have h_v52 : v52.toInt ≤ 2147483647 := h_v52
      refine t_calli (va_runV (As := [.int v52]) (rest := [.int v43]) ⟨hx, hb, hml, hown, hts⟩ (t_X0_hoursOn l dC dI tys κ B w_2 hw.2.2.2.2 v33 k_v33 v52 H.size) (cwV 1 hts (gUV tw_849 tw_850 tw_851 tw_4 tw_852) rfl rfl rfl (by decide +kernel) ⟨(Nat.le_of_ble_eq_true rfl), (Nat.le_of_ble_eq_true rfl)⟩) ⟨cPre.blind, t_recv hw (ci := 0) k_v33 rfl rfl, cPre.use hw.2.1 hw.1 hw.2.2.1 hE⟩ rfl rfl hl.1 rfl (lv_room (Nat.le_of_ble_eq_true rfl)) dX11_canBeVisited_55 ⟨(Nat.le_of_ble_eq_true rfl), (Nat.le_of_ble_eq_true rfl)⟩) hw hA (fun _ _ h => h.1) (fun v55 w_3 H locs hp hw => ?_)
      obtain ⟨_, hm⟩ := hp
      have l_v55 := i32_lo v55
      have h_v55 := i32_hi v55
      have hM := hM.trans hm (by decide) (by decide)
      have f_a0_X11_5 := hm.1 _ _ _ _ f_a0_X11_5 (by decide)
      have f_v1_X10_1 := hm.1 _ _ _ _ f_v1_X10_1 (by decide)
      have f_v4_X8_1 := hm.1 _ _ _ _ f_v4_X8_1 (by decide)
      have f_v4_X8_3 := hm.1 _ _ _ _ f_v4_X8_3 (by decide)
      have f_v1_X10_0 := hm.1 _ _ _ _ f_v1_X10_0 (by decide)
      have f_v4_X8_0 := hm.1 _ _ _ _ f_v4_X8_0 (by decide)
      refine lv_icmp_gt (tgt := 65) hx hb dX11_canBeVisited_58 (by decide) (fun c_58 => ?_) (fun c_58 => ?_)
      · simp only [fa_lt, fa_le, fa_eq] at c_58
        refine lv_iconst (v := 0) hx hb dX11_canBeVisited_65 (by decide) ?_
        rw [hQ]
        refine W.widen (k := 0) (n := 0) (Nat.le_refl _) (Nat.le_refl _) ?_
        exact W.zret (v := 0) hx hb hr rfl (fun t ht hW => ⟨⟨0, w_3, rfl, ⟨(by decide), (by decide), hw.2.2.2.2, hM, ⟨v1, v4, v10, k_v1, k_v4, (by omega), (by omega), f_a0_X11_5, f_v1_X10_1, f_v4_X8_1, (by have := li_0; omega)⟩⟩, by rw [ht]; exact hw.2.1, va_K.moved hW.alike hw.1, hw.2.2.1⟩, hw.2.2.2.1.F ht⟩) hw.2.2.2.1.2.2 dX11_canBeVisited_66
      · simp only [fa_lt, fa_le, fa_eq] at c_58
        refine lv_iconst (v := 1) hx hb dX11_canBeVisited_61 (by decide) ?_
        refine lv_goto (tgt := 66) hx hb dX11_canBeVisited_62 (by decide) ?_
        rw [hQ]
        refine W.widen (k := 0) (n := 0) (Nat.le_refl _) (Nat.le_refl _) ?_
        exact W.zret (v := 1) hx hb hr rfl (fun t ht hW => ⟨⟨1, w_3, rfl, ⟨(by decide), (by decide), hw.2.2.2.2, hM, ⟨v1, v4, v10, k_v1, k_v4, (by omega), (by omega), f_a0_X11_5, f_v1_X10_1, f_v4_X8_1, (by have := li_1; omega)⟩⟩, by rw [ht]; exact hw.2.1, va_K.moved hW.alike hw.1, hw.2.2.1⟩, hw.2.2.2.1.F ht⟩) hw.2.2.2.1.2.2 dX11_canBeVisited_66
    · simp only [fa_lt, fa_le, fa_eq, li_0] at c_23
      refine lv_iconst (v := 0) hx hb dX11_canBeVisited_26 (by decide) ?_
      rw [hQ]
      refine W.widen (k := 0) (n := 0) (Nat.le_refl _) (Nat.le_refl _) ?_
      exact W.zret (v := 0) hx hb hr rfl (fun t ht hW => ⟨⟨0, w_1, rfl, ⟨(by decide), (by decide), hw.2.2.2.2, hM, ⟨v1, v4, v10, k_v1, k_v4, (by omega), (by omega), f_a0_X11_5, f_v1_X10_1, f_v4_X8_1, (by have := li_0; omega)⟩⟩, by rw [ht]; exact hw.2.1, va_K.moved hW.alike hw.1, hw.2.2.1⟩, hw.2.2.2.1.F ht⟩) hw.2.2.2.1.2.2 dX11_canBeVisited_27
