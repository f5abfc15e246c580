theorem ts_0_15 : Cond.selects "BoyBishop" ⟨"BoyBishop", "isBoy", "(I)Z"⟩ ⟨"BoyBishop", "isBoy", "(I)Z"⟩ ∈ gT := gT_in (List.mem_append_left _ (List.mem_map.mpr ⟨(⟨"BoyBishop", "isBoy", "(I)Z"⟩, 12), (List.mem_append_left _ (List.mem_of_getElem? (i := 15) rfl)), rfl⟩)) rfl
theorem ts_1_0 : Cond.selects "BoyBishop" ⟨"BoyBishop", "isCanon", "(I)Z"⟩ ⟨"BoyBishop", "isCanon", "(I)Z"⟩ ∈ gT := gT_in (List.mem_append_left _ (List.mem_map.mpr ⟨(⟨"BoyBishop", "isCanon", "(I)Z"⟩, 12), (List.mem_append_right _ (List.mem_append_left _ (List.mem_of_getElem? (i := 0) rfl))), rfl⟩)) rfl
theorem ts_1_1 : Cond.selects "BoyBishop" ⟨"BoyBishop", "isFarm", "(I)Z"⟩ ⟨"BoyBishop", "isFarm", "(I)Z"⟩ ∈ gT := gT_in (List.mem_append_left _ (List.mem_map.mpr ⟨(⟨"BoyBishop", "isFarm", "(I)Z"⟩, 12), (List.mem_append_right _ (List.mem_append_left _ (List.mem_of_getElem? (i := 1) rfl))), rfl⟩)) rfl
theorem ts_1_14 : Cond.selects "BoyBishop" ⟨"BoyBishop", "isAlive", "(I)Z"⟩ ⟨"BoyBishop", "isAlive", "(I)Z"⟩ ∈ gT := gT_in (List.mem_append_left _ (List.mem_map.mpr ⟨(⟨"BoyBishop", "isAlive", "(I)Z"⟩, 12), (List.mem_append_right _ (List.mem_append_left _ (List.mem_of_getElem? (i := 14) rfl))), rfl⟩)) rfl
theorem ts_1_15 : Cond.selects "BoyBishop" ⟨"BoyBishop", "isSinging", "(I)Z"⟩ ⟨"BoyBishop", "isSinging", "(I)Z"⟩ ∈ gT := gT_in (List.mem_append_left _ (List.mem_map.mpr ⟨(⟨"BoyBishop", "isSinging", "(I)Z"⟩, 12), (List.mem_append_right _ (List.mem_append_left _ (List.mem_of_getElem? (i := 15) rfl))), rfl⟩)) rfl
theorem tw_1 : (Jvm.Cond.initialized "BoyBishop") ∈ gT := gT_in (List.mem_append_right _ (List.mem_append_left _ (List.mem_of_getElem? (i := 1) rfl))) rfl
theorem tw_285 : (Jvm.Cond.fieldLink "BoyBishop" (115 : Nat) "BoyBishop$Whole" "standing" "LBoyBishop$Standing;") ∈ gT := gT_in (List.mem_append_right _ (List.mem_append_right _ (List.mem_append_left _ (List.mem_of_getElem? (i := 45) rfl)))) rfl
theorem tw_287 : (Jvm.Cond.fieldLink "BoyBishop" (136 : Nat) "BoyBishop$Whole" "force" "I") ∈ gT := gT_in (List.mem_append_right _ (List.mem_append_right _ (List.mem_append_left _ (List.mem_of_getElem? (i := 47) rfl)))) rfl
theorem tw_289 : (Jvm.Cond.fieldLink "BoyBishop" (336 : Nat) "BoyBishop$Whole" "x" "I") ∈ gT := gT_in (List.mem_append_right _ (List.mem_append_right _ (List.mem_append_left _ (List.mem_of_getElem? (i := 49) rfl)))) rfl
theorem tw_292 : (Jvm.Cond.fieldLink "BoyBishop" (121 : Nat) "BoyBishop$Whole" "notes" "I") ∈ gT := gT_in (List.mem_append_right _ (List.mem_append_right _ (List.mem_append_left _ (List.mem_of_getElem? (i := 52) rfl)))) rfl
theorem tw_329 : (Jvm.Cond.fieldLink "BoyBishop$Past" (24 : Nat) "BoyBishop$Past" "kept" "I") ∈ gT := gT_in (List.mem_append_right _ (List.mem_append_right _ (List.mem_append_left _ (List.mem_of_getElem? (i := 89) rfl)))) rfl
theorem tw_38 : (Jvm.Cond.fieldLink "BoyBishop" (104 : Nat) "BoyBishop$Tape" "length" "I") ∈ gT := gT_in (List.mem_append_right _ (List.mem_append_left _ (List.mem_of_getElem? (i := 38) rfl))) rfl
theorem tw_427 : (Jvm.Cond.fieldLink "BoyBishop" (130 : Nat) "BoyBishop" "ruleCount" "I") ∈ gT := gT_in (List.mem_append_right _ (List.mem_append_right _ (List.mem_append_left _ (List.mem_of_getElem? (i := 187) rfl)))) rfl
theorem tw_69 : (Jvm.Cond.fieldLink "BoyBishop" (194 : Nat) "BoyBishop$Choir" "told" "Z") ∈ gT := gT_in (List.mem_append_right _ (List.mem_append_left _ (List.mem_of_getElem? (i := 69) rfl))) rfl
theorem tw_710 : (Jvm.Cond.methodLink "BoyBishop" (139 : Nat) ({ cls := "BoyBishop", name := "isBoy", desc := "(I)Z" } : Jvm.MethodName)) ∈ gT := gT_in (List.mem_append_right _ (List.mem_append_right _ (List.mem_append_right _ (List.mem_append_left _ (List.mem_of_getElem? (i := 230) rfl))))) rfl
theorem tw_712 : (Jvm.Cond.instanceMethod ({ cls := "BoyBishop", name := "isBoy", desc := "(I)Z" } : Jvm.MethodName)) ∈ gT := gT_in (List.mem_append_right _ (List.mem_append_right _ (List.mem_append_right _ (List.mem_append_left _ (List.mem_of_getElem? (i := 232) rfl))))) rfl
theorem tw_713 : (Jvm.Cond.code ({ cls := "BoyBishop", name := "isBoy", desc := "(I)Z" } : Jvm.MethodName) prog_1_method_41_code (2 : Nat) (Option.some Jvm.ClassFile.FieldType.boolean)) ∈ gT := gT_in (List.mem_append_right _ (List.mem_append_right _ (List.mem_append_right _ (List.mem_append_left _ (List.mem_of_getElem? (i := 233) rfl))))) rfl
theorem tw_722 : (Jvm.Cond.methodLink "BoyBishop" (158 : Nat) ({ cls := "BoyBishop", name := "isCanon", desc := "(I)Z" } : Jvm.MethodName)) ∈ gT := gT_in (List.mem_append_right _ (List.mem_append_right _ (List.mem_append_right _ (List.mem_append_right _ (List.mem_append_left _ (List.mem_of_getElem? (i := 2) rfl)))))) rfl
theorem tw_724 : (Jvm.Cond.instanceMethod ({ cls := "BoyBishop", name := "isCanon", desc := "(I)Z" } : Jvm.MethodName)) ∈ gT := gT_in (List.mem_append_right _ (List.mem_append_right _ (List.mem_append_right _ (List.mem_append_right _ (List.mem_append_left _ (List.mem_of_getElem? (i := 4) rfl)))))) rfl
theorem tw_725 : (Jvm.Cond.code ({ cls := "BoyBishop", name := "isCanon", desc := "(I)Z" } : Jvm.MethodName) prog_1_method_43_code (2 : Nat) (Option.some Jvm.ClassFile.FieldType.boolean)) ∈ gT := gT_in (List.mem_append_right _ (List.mem_append_right _ (List.mem_append_right _ (List.mem_append_right _ (List.mem_append_left _ (List.mem_of_getElem? (i := 5) rfl)))))) rfl
theorem tw_730 : (Jvm.Cond.methodLink "BoyBishop" (173 : Nat) ({ cls := "BoyBishop", name := "isFarm", desc := "(I)Z" } : Jvm.MethodName)) ∈ gT := gT_in (List.mem_append_right _ (List.mem_append_right _ (List.mem_append_right _ (List.mem_append_right _ (List.mem_append_left _ (List.mem_of_getElem? (i := 10) rfl)))))) rfl
theorem tw_732 : (Jvm.Cond.instanceMethod ({ cls := "BoyBishop", name := "isFarm", desc := "(I)Z" } : Jvm.MethodName)) ∈ gT := gT_in (List.mem_append_right _ (List.mem_append_right _ (List.mem_append_right _ (List.mem_append_right _ (List.mem_append_left _ (List.mem_of_getElem? (i := 12) rfl)))))) rfl
theorem tw_733 : (Jvm.Cond.code ({ cls := "BoyBishop", name := "isFarm", desc := "(I)Z" } : Jvm.MethodName) prog_1_method_45_code (2 : Nat) (Option.some Jvm.ClassFile.FieldType.boolean)) ∈ gT := gT_in (List.mem_append_right _ (List.mem_append_right _ (List.mem_append_right _ (List.mem_append_right _ (List.mem_append_left _ (List.mem_of_getElem? (i := 13) rfl)))))) rfl
theorem tw_80 : (Jvm.Cond.fieldLink "BoyBishop" (127 : Nat) "BoyBishop$Choir" "boys" "I") ∈ gT := gT_in (List.mem_append_right _ (List.mem_append_left _ (List.mem_of_getElem? (i := 80) rfl))) rfl
theorem tw_85 : (Jvm.Cond.fieldLink "BoyBishop" (311 : Nat) "BoyBishop$Choir" "canons" "I") ∈ gT := gT_in (List.mem_append_right _ (List.mem_append_left _ (List.mem_of_getElem? (i := 85) rfl))) rfl
theorem tw_870 : (Jvm.Cond.methodLink "BoyBishop" (228 : Nat) ({ cls := "BoyBishop", name := "isAlive", desc := "(I)Z" } : Jvm.MethodName)) ∈ gT := gT_in (List.mem_append_right _ (List.mem_append_right _ (List.mem_append_right _ (List.mem_append_right _ (List.mem_append_left _ (List.mem_of_getElem? (i := 150) rfl)))))) rfl
theorem tw_872 : (Jvm.Cond.instanceMethod ({ cls := "BoyBishop", name := "isAlive", desc := "(I)Z" } : Jvm.MethodName)) ∈ gT := gT_in (List.mem_append_right _ (List.mem_append_right _ (List.mem_append_right _ (List.mem_append_right _ (List.mem_append_left _ (List.mem_of_getElem? (i := 152) rfl)))))) rfl
theorem tw_873 : (Jvm.Cond.code ({ cls := "BoyBishop", name := "isAlive", desc := "(I)Z" } : Jvm.MethodName) prog_1_method_44_code (2 : Nat) (Option.some Jvm.ClassFile.FieldType.boolean)) ∈ gT := gT_in (List.mem_append_right _ (List.mem_append_right _ (List.mem_append_right _ (List.mem_append_right _ (List.mem_append_left _ (List.mem_of_getElem? (i := 153) rfl)))))) rfl
theorem tw_878 : (Jvm.Cond.methodLink "BoyBishop" (231 : Nat) ({ cls := "BoyBishop", name := "isSinging", desc := "(I)Z" } : Jvm.MethodName)) ∈ gT := gT_in (List.mem_append_right _ (List.mem_append_right _ (List.mem_append_right _ (List.mem_append_right _ (List.mem_append_left _ (List.mem_of_getElem? (i := 158) rfl)))))) rfl
theorem tw_880 : (Jvm.Cond.instanceMethod ({ cls := "BoyBishop", name := "isSinging", desc := "(I)Z" } : Jvm.MethodName)) ∈ gT := gT_in (List.mem_append_right _ (List.mem_append_right _ (List.mem_append_right _ (List.mem_append_right _ (List.mem_append_left _ (List.mem_of_getElem? (i := 160) rfl)))))) rfl
theorem tw_881 : (Jvm.Cond.code ({ cls := "BoyBishop", name := "isSinging", desc := "(I)Z" } : Jvm.MethodName) prog_1_method_42_code (2 : Nat) (Option.some Jvm.ClassFile.FieldType.boolean)) ∈ gT := gT_in (List.mem_append_right _ (List.mem_append_right _ (List.mem_append_right _ (List.mem_append_right _ (List.mem_append_left _ (List.mem_of_getElem? (i := 161) rfl)))))) rfl
theorem tw_886 : (Jvm.Cond.methodLink "BoyBishop" (234 : Nat) ({ cls := "BoyBishop$Past", name := "takeBack", desc := "(LBoyBishop$Standing;)Z" } : Jvm.MethodName)) ∈ gT := gT_in (List.mem_append_right _ (List.mem_append_right _ (List.mem_append_right _ (List.mem_append_right _ (List.mem_append_left _ (List.mem_of_getElem? (i := 166) rfl)))))) rfl
theorem tw_887 : (Jvm.Cond.instanceMethod ({ cls := "BoyBishop$Past", name := "takeBack", desc := "(LBoyBishop$Standing;)Z" } : Jvm.MethodName)) ∈ gT := gT_in (List.mem_append_right _ (List.mem_append_right _ (List.mem_append_right _ (List.mem_append_right _ (List.mem_append_left _ (List.mem_of_getElem? (i := 167) rfl)))))) rfl
theorem tw_888 : (Jvm.Cond.selects "BoyBishop$Past" ({ cls := "BoyBishop$Past", name := "takeBack", desc := "(LBoyBishop$Standing;)Z" } : Jvm.MethodName) ({ cls := "BoyBishop$Past", name := "takeBack", desc := "(LBoyBishop$Standing;)Z" } : Jvm.MethodName)) ∈ gT := gT_in (List.mem_append_right _ (List.mem_append_right _ (List.mem_append_right _ (List.mem_append_right _ (List.mem_append_left _ (List.mem_of_getElem? (i := 168) rfl)))))) rfl
theorem tw_889 : (Jvm.Cond.code ({ cls := "BoyBishop$Past", name := "takeBack", desc := "(LBoyBishop$Standing;)Z" } : Jvm.MethodName) prog_6_method_3_code (2 : Nat) (Option.some Jvm.ClassFile.FieldType.boolean)) ∈ gT := gT_in (List.mem_append_right _ (List.mem_append_right _ (List.mem_append_right _ (List.mem_append_right _ (List.mem_append_left _ (List.mem_of_getElem? (i := 169) rfl)))))) rfl
theorem tw_89 : (Jvm.Cond.fieldLink "BoyBishop" (298 : Nat) "BoyBishop$Choir" "farms" "I") ∈ gT := gT_in (List.mem_append_right _ (List.mem_append_left _ (List.mem_of_getElem? (i := 89) rfl))) rfl
theorem dX11_ahead_0 : decode cX11_ahead 0 = .ok (.aload_n 0, 1) := by decide +kernel
theorem dX11_ahead_1 : decode cX11_ahead 1 = .ok (.getfield 45, 3) := by decide +kernel
theorem dX11_ahead_4 : decode cX11_ahead 4 = .ok (.getfield 53, 3) := by decide +kernel
theorem dX11_ahead_7 : decode cX11_ahead 7 = .ok (.getfield 194, 3) := by decide +kernel
theorem dX11_ahead_10 : decode cX11_ahead 10 = .ok (.ifCond .eq 22, 3) := by decide +kernel
theorem dX11_ahead_32 : decode cX11_ahead 32 = .ok (.bipush (-2), 2) := by decide +kernel
theorem dX11_ahead_34 : decode cX11_ahead 34 = .ok (.ireturn, 1) := by decide +kernel
theorem dX11_best_0 : decode cX11_best 0 = .ok (.aload_n 0, 1) := by decide +kernel
theorem dX11_best_1 : decode cX11_best 1 = .ok (.getfield 45, 3) := by decide +kernel
theorem dX11_best_4 : decode cX11_best 4 = .ok (.getfield 53, 3) := by decide +kernel
theorem dX11_best_7 : decode cX11_best 7 = .ok (.getfield 194, 3) := by decide +kernel
theorem dX11_best_10 : decode cX11_best 10 = .ok (.ifCond .eq 12, 3) := by decide +kernel
theorem dX11_best_22 : decode cX11_best 22 = .ok (.iconst (-1), 1) := by decide +kernel
theorem dX11_best_23 : decode cX11_best 23 = .ok (.ireturn, 1) := by decide +kernel
theorem dX11_boy_0 : decode cX11_boy 0 = .ok (.aload_n 0, 1) := by decide +kernel
theorem dX11_boy_1 : decode cX11_boy 1 = .ok (.iload_n 1, 1) := by decide +kernel
theorem dX11_boy_2 : decode cX11_boy 2 = .ok (.invokevirtual 139, 3) := by decide +kernel
theorem dX11_boy_5 : decode cX11_boy 5 = .ok (.ifCond .ne 5, 3) := by decide +kernel
theorem dX11_boy_8 : decode cX11_boy 8 = .ok (.iconst (-1), 1) := by decide +kernel
theorem dX11_boy_9 : decode cX11_boy 9 = .ok (.ireturn, 1) := by decide +kernel
theorem dX11_breaks_0 : decode cX11_breaks 0 = .ok (.aload_n 0, 1) := by decide +kernel
theorem dX11_breaks_1 : decode cX11_breaks 1 = .ok (.iload_n 1, 1) := by decide +kernel
theorem dX11_breaks_2 : decode cX11_breaks 2 = .ok (.invokevirtual 231, 3) := by decide +kernel
theorem dX11_breaks_5 : decode cX11_breaks 5 = .ok (.ifCond .ne 5, 3) := by decide +kernel
theorem dX11_breaks_8 : decode cX11_breaks 8 = .ok (.iconst (-1), 1) := by decide +kernel
theorem dX11_breaks_9 : decode cX11_breaks 9 = .ok (.ireturn, 1) := by decide +kernel
theorem dX11_canon_0 : decode cX11_canon 0 = .ok (.aload_n 0, 1) := by decide +kernel
theorem dX11_canon_1 : decode cX11_canon 1 = .ok (.iload_n 1, 1) := by decide +kernel
theorem dX11_canon_2 : decode cX11_canon 2 = .ok (.invokevirtual 158, 3) := by decide +kernel
theorem dX11_canon_5 : decode cX11_canon 5 = .ok (.ifCond .ne 6, 3) := by decide +kernel
theorem dX11_canon_8 : decode cX11_canon 8 = .ok (.bipush (-2), 2) := by decide +kernel
theorem dX11_canon_10 : decode cX11_canon 10 = .ok (.ireturn, 1) := by decide +kernel
theorem dX11_day_0 : decode cX11_day 0 = .ok (.aload_n 0, 1) := by decide +kernel
theorem dX11_day_1 : decode cX11_day 1 = .ok (.getfield 45, 3) := by decide +kernel
theorem dX11_day_4 : decode cX11_day 4 = .ok (.getfield 53, 3) := by decide +kernel
theorem dX11_day_7 : decode cX11_day 7 = .ok (.getfield 194, 3) := by decide +kernel
theorem dX11_day_10 : decode cX11_day 10 = .ok (.ifCond .eq 19, 3) := by decide +kernel
theorem dX11_day_29 : decode cX11_day 29 = .ok (.bipush (-2), 2) := by decide +kernel
theorem dX11_day_31 : decode cX11_day 31 = .ok (.ireturn, 1) := by decide +kernel
theorem dX11_end_0 : decode cX11_end 0 = .ok (.iload_n 1, 1) := by decide +kernel
theorem dX11_end_1 : decode cX11_end 1 = .ok (.ifCond .lt 14, 3) := by decide +kernel
theorem dX11_end_4 : decode cX11_end 4 = .ok (.iload_n 1, 1) := by decide +kernel
theorem dX11_end_5 : decode cX11_end 5 = .ok (.aload_n 0, 1) := by decide +kernel
theorem dX11_end_6 : decode cX11_end 6 = .ok (.getfield 10, 3) := by decide +kernel
theorem dX11_end_9 : decode cX11_end 9 = .ok (.getfield 104, 3) := by decide +kernel
theorem dX11_end_12 : decode cX11_end 12 = .ok (.if_icmp .le 5, 3) := by decide +kernel
theorem dX11_end_15 : decode cX11_end 15 = .ok (.iconst (-1), 1) := by decide +kernel
theorem dX11_end_16 : decode cX11_end 16 = .ok (.ireturn, 1) := by decide +kernel
theorem dX11_end_17 : decode cX11_end 17 = .ok (.aload_n 0, 1) := by decide +kernel
theorem dX11_end_18 : decode cX11_end 18 = .ok (.getfield 10, 3) := by decide +kernel
theorem dX11_end_21 : decode cX11_end 21 = .ok (.iload_n 1, 1) := by decide +kernel
theorem dX11_end_22 : decode cX11_end 22 = .ok (.putfield 104, 3) := by decide +kernel
theorem dX11_end_25 : decode cX11_end 25 = .ok (.iload_n 1, 1) := by decide +kernel
theorem dX11_end_26 : decode cX11_end 26 = .ok (.ireturn, 1) := by decide +kernel
theorem dX11_falls_0 : decode cX11_falls 0 = .ok (.aload_n 0, 1) := by decide +kernel
theorem dX11_falls_1 : decode cX11_falls 1 = .ok (.iload_n 1, 1) := by decide +kernel
theorem dX11_falls_2 : decode cX11_falls 2 = .ok (.invokevirtual 228, 3) := by decide +kernel
theorem dX11_falls_5 : decode cX11_falls 5 = .ok (.ifCond .eq 14, 3) := by decide +kernel
theorem dX11_falls_19 : decode cX11_falls 19 = .ok (.iconst (-1), 1) := by decide +kernel
theorem dX11_falls_20 : decode cX11_falls 20 = .ok (.ireturn, 1) := by decide +kernel
theorem dX11_farm_0 : decode cX11_farm 0 = .ok (.aload_n 0, 1) := by decide +kernel
theorem dX11_farm_1 : decode cX11_farm 1 = .ok (.iload_n 1, 1) := by decide +kernel
theorem dX11_farm_2 : decode cX11_farm 2 = .ok (.invokevirtual 173, 3) := by decide +kernel
theorem dX11_farm_5 : decode cX11_farm 5 = .ok (.ifCond .ne 6, 3) := by decide +kernel
theorem dX11_farm_8 : decode cX11_farm 8 = .ok (.bipush (-2), 2) := by decide +kernel
theorem dX11_farm_10 : decode cX11_farm 10 = .ok (.ireturn, 1) := by decide +kernel
theorem dX11_force_0 : decode cX11_force 0 = .ok (.iload_n 1, 1) := by decide +kernel
theorem dX11_force_1 : decode cX11_force 1 = .ok (.iconst (-1), 1) := by decide +kernel
theorem dX11_force_2 : decode cX11_force 2 = .ok (.if_icmp .lt 11, 3) := by decide +kernel
theorem dX11_force_5 : decode cX11_force 5 = .ok (.iload_n 1, 1) := by decide +kernel
theorem dX11_force_6 : decode cX11_force 6 = .ok (.aload_n 0, 1) := by decide +kernel
theorem dX11_force_7 : decode cX11_force 7 = .ok (.getfield 130, 3) := by decide +kernel
theorem dX11_force_10 : decode cX11_force 10 = .ok (.if_icmp .lt 6, 3) := by decide +kernel
theorem dX11_force_13 : decode cX11_force 13 = .ok (.bipush (-2), 2) := by decide +kernel
theorem dX11_force_15 : decode cX11_force 15 = .ok (.ireturn, 1) := by decide +kernel
theorem dX11_force_16 : decode cX11_force 16 = .ok (.aload_n 0, 1) := by decide +kernel
theorem dX11_force_17 : decode cX11_force 17 = .ok (.getfield 45, 3) := by decide +kernel
theorem dX11_force_20 : decode cX11_force 20 = .ok (.getfield 136, 3) := by decide +kernel
theorem dX11_force_23 : decode cX11_force 23 = .ok (.istore_n 2, 1) := by decide +kernel
theorem dX11_force_24 : decode cX11_force 24 = .ok (.aload_n 0, 1) := by decide +kernel
theorem dX11_force_25 : decode cX11_force 25 = .ok (.getfield 45, 3) := by decide +kernel
theorem dX11_force_28 : decode cX11_force 28 = .ok (.iload_n 1, 1) := by decide +kernel
theorem dX11_force_29 : decode cX11_force 29 = .ok (.putfield 136, 3) := by decide +kernel
theorem dX11_force_32 : decode cX11_force 32 = .ok (.iload_n 2, 1) := by decide +kernel
theorem dX11_force_33 : decode cX11_force 33 = .ok (.ireturn, 1) := by decide +kernel
theorem dX11_give_0 : decode cX11_give 0 = .ok (.aload_n 0, 1) := by decide +kernel
theorem dX11_give_1 : decode cX11_give 1 = .ok (.getfield 45, 3) := by decide +kernel
theorem dX11_give_4 : decode cX11_give 4 = .ok (.getfield 115, 3) := by decide +kernel
theorem dX11_give_7 : decode cX11_give 7 = .ok (.astore_n 3, 1) := by decide +kernel
theorem dX11_give_8 : decode cX11_give 8 = .ok (.aload_n 0, 1) := by decide +kernel
theorem dX11_give_9 : decode cX11_give 9 = .ok (.iload_n 1, 1) := by decide +kernel
theorem dX11_give_10 : decode cX11_give 10 = .ok (.invokevirtual 158, 3) := by decide +kernel
theorem dX11_give_13 : decode cX11_give 13 = .ok (.ifCond .eq 30, 3) := by decide +kernel
theorem dX11_give_43 : decode cX11_give 43 = .ok (.iconst (-1), 1) := by decide +kernel
theorem dX11_give_44 : decode cX11_give 44 = .ok (.ireturn, 1) := by decide +kernel
theorem dX11_isAlive_0 : decode cX11_isAlive 0 = .ok (.aload_n 0, 1) := by decide +kernel
theorem dX11_isAlive_1 : decode cX11_isAlive 1 = .ok (.iload_n 1, 1) := by decide +kernel
theorem dX11_isAlive_2 : decode cX11_isAlive 2 = .ok (.invokevirtual 158, 3) := by decide +kernel
theorem dX11_isAlive_5 : decode cX11_isAlive 5 = .ok (.ifCond .eq 24, 3) := by decide +kernel
theorem dX11_isAlive_29 : decode cX11_isAlive 29 = .ok (.iconst 0, 1) := by decide +kernel
theorem dX11_isAlive_30 : decode cX11_isAlive 30 = .ok (.ireturn, 1) := by decide +kernel
theorem dX11_isBoy_0 : decode cX11_isBoy 0 = .ok (.iload_n 1, 1) := by decide +kernel
theorem dX11_isBoy_1 : decode cX11_isBoy 1 = .ok (.ifCond .lt 21, 3) := by decide +kernel
theorem dX11_isBoy_4 : decode cX11_isBoy 4 = .ok (.iload_n 1, 1) := by decide +kernel
theorem dX11_isBoy_5 : decode cX11_isBoy 5 = .ok (.aload_n 0, 1) := by decide +kernel
theorem dX11_isBoy_6 : decode cX11_isBoy 6 = .ok (.getfield 45, 3) := by decide +kernel
theorem dX11_isBoy_9 : decode cX11_isBoy 9 = .ok (.getfield 53, 3) := by decide +kernel
theorem dX11_isBoy_12 : decode cX11_isBoy 12 = .ok (.getfield 127, 3) := by decide +kernel
theorem dX11_isBoy_15 : decode cX11_isBoy 15 = .ok (.if_icmp .ge 7, 3) := by decide +kernel
theorem dX11_isBoy_22 : decode cX11_isBoy 22 = .ok (.iconst 0, 1) := by decide +kernel
theorem dX11_isBoy_23 : decode cX11_isBoy 23 = .ok (.ireturn, 1) := by decide +kernel
theorem dX11_isCanon_0 : decode cX11_isCanon 0 = .ok (.iload_n 1, 1) := by decide +kernel
theorem dX11_isCanon_1 : decode cX11_isCanon 1 = .ok (.ifCond .lt 21, 3) := by decide +kernel
theorem dX11_isCanon_4 : decode cX11_isCanon 4 = .ok (.iload_n 1, 1) := by decide +kernel
theorem dX11_isCanon_5 : decode cX11_isCanon 5 = .ok (.aload_n 0, 1) := by decide +kernel
theorem dX11_isCanon_6 : decode cX11_isCanon 6 = .ok (.getfield 45, 3) := by decide +kernel
theorem dX11_isCanon_9 : decode cX11_isCanon 9 = .ok (.getfield 53, 3) := by decide +kernel
theorem dX11_isCanon_12 : decode cX11_isCanon 12 = .ok (.getfield 311, 3) := by decide +kernel
theorem dX11_isCanon_15 : decode cX11_isCanon 15 = .ok (.if_icmp .ge 7, 3) := by decide +kernel
theorem dX11_isCanon_22 : decode cX11_isCanon 22 = .ok (.iconst 0, 1) := by decide +kernel
theorem dX11_isCanon_23 : decode cX11_isCanon 23 = .ok (.ireturn, 1) := by decide +kernel
theorem dX11_isFarm_0 : decode cX11_isFarm 0 = .ok (.iload_n 1, 1) := by decide +kernel
theorem dX11_isFarm_1 : decode cX11_isFarm 1 = .ok (.ifCond .lt 21, 3) := by decide +kernel
theorem dX11_isFarm_4 : decode cX11_isFarm 4 = .ok (.iload_n 1, 1) := by decide +kernel
theorem dX11_isFarm_5 : decode cX11_isFarm 5 = .ok (.aload_n 0, 1) := by decide +kernel
theorem dX11_isFarm_6 : decode cX11_isFarm 6 = .ok (.getfield 45, 3) := by decide +kernel
theorem dX11_isFarm_9 : decode cX11_isFarm 9 = .ok (.getfield 53, 3) := by decide +kernel
theorem dX11_isFarm_12 : decode cX11_isFarm 12 = .ok (.getfield 298, 3) := by decide +kernel
theorem dX11_isFarm_15 : decode cX11_isFarm 15 = .ok (.if_icmp .ge 7, 3) := by decide +kernel
theorem dX11_isFarm_22 : decode cX11_isFarm 22 = .ok (.iconst 0, 1) := by decide +kernel
theorem dX11_isFarm_23 : decode cX11_isFarm 23 = .ok (.ireturn, 1) := by decide +kernel
theorem dX11_isSinging_0 : decode cX11_isSinging 0 = .ok (.aload_n 0, 1) := by decide +kernel
theorem dX11_isSinging_1 : decode cX11_isSinging 1 = .ok (.iload_n 1, 1) := by decide +kernel
theorem dX11_isSinging_2 : decode cX11_isSinging 2 = .ok (.invokevirtual 139, 3) := by decide +kernel
theorem dX11_isSinging_5 : decode cX11_isSinging 5 = .ok (.ifCond .eq 22, 3) := by decide +kernel
theorem dX11_isSinging_27 : decode cX11_isSinging 27 = .ok (.iconst 0, 1) := by decide +kernel
theorem dX11_isSinging_28 : decode cX11_isSinging 28 = .ok (.ireturn, 1) := by decide +kernel
theorem dX11_least_0 : decode cX11_least 0 = .ok (.aload_n 0, 1) := by decide +kernel
theorem dX11_least_1 : decode cX11_least 1 = .ok (.iload_n 1, 1) := by decide +kernel
theorem dX11_least_2 : decode cX11_least 2 = .ok (.invokevirtual 231, 3) := by decide +kernel
theorem dX11_least_5 : decode cX11_least 5 = .ok (.ifCond .ne 5, 3) := by decide +kernel
theorem dX11_least_8 : decode cX11_least 8 = .ok (.iconst (-1), 1) := by decide +kernel
theorem dX11_least_9 : decode cX11_least 9 = .ok (.ireturn, 1) := by decide +kernel
theorem dX11_likely_0 : decode cX11_likely 0 = .ok (.aload_n 0, 1) := by decide +kernel
theorem dX11_likely_1 : decode cX11_likely 1 = .ok (.iload_n 1, 1) := by decide +kernel
theorem dX11_likely_2 : decode cX11_likely 2 = .ok (.invokevirtual 228, 3) := by decide +kernel
theorem dX11_likely_5 : decode cX11_likely 5 = .ok (.ifCond .eq 14, 3) := by decide +kernel
theorem dX11_likely_19 : decode cX11_likely 19 = .ok (.iconst (-1), 1) := by decide +kernel
theorem dX11_likely_20 : decode cX11_likely 20 = .ok (.ireturn, 1) := by decide +kernel
theorem dX11_likes_0 : decode cX11_likes 0 = .ok (.aload_n 0, 1) := by decide +kernel
theorem dX11_likes_1 : decode cX11_likes 1 = .ok (.iload_n 1, 1) := by decide +kernel
theorem dX11_likes_2 : decode cX11_likes 2 = .ok (.invokevirtual 139, 3) := by decide +kernel
theorem dX11_likes_5 : decode cX11_likes 5 = .ok (.ifCond .eq 11, 3) := by decide +kernel
theorem dX11_likes_16 : decode cX11_likes 16 = .ok (.iconst (-1), 1) := by decide +kernel
theorem dX11_likes_17 : decode cX11_likes 17 = .ok (.ireturn, 1) := by decide +kernel
theorem dX11_look_0 : decode cX11_look 0 = .ok (.aload_n 0, 1) := by decide +kernel
theorem dX11_look_1 : decode cX11_look 1 = .ok (.getfield 45, 3) := by decide +kernel
theorem dX11_look_4 : decode cX11_look 4 = .ok (.getfield 53, 3) := by decide +kernel
theorem dX11_look_7 : decode cX11_look 7 = .ok (.getfield 194, 3) := by decide +kernel
theorem dX11_look_10 : decode cX11_look 10 = .ok (.ifCond .eq 12, 3) := by decide +kernel
theorem dX11_look_22 : decode cX11_look 22 = .ok (.iconst (-1), 1) := by decide +kernel
theorem dX11_look_23 : decode cX11_look 23 = .ok (.ireturn, 1) := by decide +kernel
theorem dX11_method_0 : decode cX11_method 0 = .ok (.aload_n 0, 1) := by decide +kernel
theorem dX11_method_1 : decode cX11_method 1 = .ok (.getfield 45, 3) := by decide +kernel
theorem dX11_method_4 : decode cX11_method 4 = .ok (.getfield 53, 3) := by decide +kernel
theorem dX11_method_7 : decode cX11_method 7 = .ok (.getfield 194, 3) := by decide +kernel
theorem dX11_method_10 : decode cX11_method 10 = .ok (.ifCond .eq 12, 3) := by decide +kernel
theorem dX11_method_22 : decode cX11_method 22 = .ok (.bipush (-2), 2) := by decide +kernel
theorem dX11_method_24 : decode cX11_method 24 = .ok (.ireturn, 1) := by decide +kernel
theorem dX11_note_0 : decode cX11_note 0 = .ok (.iload_n 1, 1) := by decide +kernel
theorem dX11_note_1 : decode cX11_note 1 = .ok (.iconst (-1), 1) := by decide +kernel
theorem dX11_note_2 : decode cX11_note 2 = .ok (.if_icmp .ne 13, 3) := by decide +kernel
theorem dX11_note_5 : decode cX11_note 5 = .ok (.aload_n 0, 1) := by decide +kernel
theorem dX11_note_6 : decode cX11_note 6 = .ok (.getfield 45, 3) := by decide +kernel
theorem dX11_note_9 : decode cX11_note 9 = .ok (.iconst 0, 1) := by decide +kernel
theorem dX11_note_10 : decode cX11_note 10 = .ok (.putfield 121, 3) := by decide +kernel
theorem dX11_note_13 : decode cX11_note 13 = .ok (.iconst 0, 1) := by decide +kernel
theorem dX11_note_14 : decode cX11_note 14 = .ok (.ireturn, 1) := by decide +kernel
theorem dX11_note_15 : decode cX11_note 15 = .ok (.aload_n 0, 1) := by decide +kernel
theorem dX11_note_16 : decode cX11_note 16 = .ok (.getfield 45, 3) := by decide +kernel
theorem dX11_note_19 : decode cX11_note 19 = .ok (.getfield 53, 3) := by decide +kernel
theorem dX11_note_22 : decode cX11_note 22 = .ok (.getfield 194, 3) := by decide +kernel
theorem dX11_note_25 : decode cX11_note 25 = .ok (.ifCond .eq 38, 3) := by decide +kernel
theorem dX11_note_63 : decode cX11_note 63 = .ok (.bipush (-2), 2) := by decide +kernel
theorem dX11_note_65 : decode cX11_note 65 = .ok (.ireturn, 1) := by decide +kernel
theorem dX11_promise_0 : decode cX11_promise 0 = .ok (.aload_n 0, 1) := by decide +kernel
theorem dX11_promise_1 : decode cX11_promise 1 = .ok (.iload_n 1, 1) := by decide +kernel
theorem dX11_promise_2 : decode cX11_promise 2 = .ok (.invokevirtual 139, 3) := by decide +kernel
theorem dX11_promise_5 : decode cX11_promise 5 = .ok (.ifCond .eq 13, 3) := by decide +kernel
theorem dX11_promise_18 : decode cX11_promise 18 = .ok (.iconst (-1), 1) := by decide +kernel
theorem dX11_promise_19 : decode cX11_promise 19 = .ok (.ireturn, 1) := by decide +kernel
theorem dX11_rests_0 : decode cX11_rests 0 = .ok (.aload_n 0, 1) := by decide +kernel
theorem dX11_rests_1 : decode cX11_rests 1 = .ok (.iload_n 1, 1) := by decide +kernel
theorem dX11_rests_2 : decode cX11_rests 2 = .ok (.invokevirtual 231, 3) := by decide +kernel
theorem dX11_rests_5 : decode cX11_rests 5 = .ok (.ifCond .eq 25, 3) := by decide +kernel
theorem dX11_rests_30 : decode cX11_rests 30 = .ok (.iconst (-1), 1) := by decide +kernel
theorem dX11_rests_31 : decode cX11_rests 31 = .ok (.ireturn, 1) := by decide +kernel
theorem dX11_round_0 : decode cX11_round 0 = .ok (.aload_n 0, 1) := by decide +kernel
theorem dX11_round_1 : decode cX11_round 1 = .ok (.getfield 45, 3) := by decide +kernel
theorem dX11_round_4 : decode cX11_round 4 = .ok (.getfield 53, 3) := by decide +kernel
theorem dX11_round_7 : decode cX11_round 7 = .ok (.getfield 194, 3) := by decide +kernel
theorem dX11_round_10 : decode cX11_round 10 = .ok (.ifCond .eq 12, 3) := by decide +kernel
theorem dX11_round_22 : decode cX11_round 22 = .ok (.iconst (-1), 1) := by decide +kernel
theorem dX11_round_23 : decode cX11_round 23 = .ok (.ireturn, 1) := by decide +kernel
theorem dX11_ruled_0 : decode cX11_ruled 0 = .ok (.aload_n 0, 1) := by decide +kernel
theorem dX11_ruled_1 : decode cX11_ruled 1 = .ok (.getfield 45, 3) := by decide +kernel
theorem dX11_ruled_4 : decode cX11_ruled 4 = .ok (.getfield 53, 3) := by decide +kernel
theorem dX11_ruled_7 : decode cX11_ruled 7 = .ok (.getfield 194, 3) := by decide +kernel
theorem dX11_ruled_10 : decode cX11_ruled 10 = .ok (.ifCond .eq 12, 3) := by decide +kernel
theorem dX11_ruled_22 : decode cX11_ruled 22 = .ok (.bipush (-3), 2) := by decide +kernel
theorem dX11_ruled_24 : decode cX11_ruled 24 = .ok (.ireturn, 1) := by decide +kernel
theorem dX11_seed_0 : decode cX11_seed 0 = .ok (.iload_n 1, 1) := by decide +kernel
theorem dX11_seed_1 : decode cX11_seed 1 = .ok (.ifCond .ge 5, 3) := by decide +kernel
theorem dX11_seed_4 : decode cX11_seed 4 = .ok (.iconst (-1), 1) := by decide +kernel
theorem dX11_seed_5 : decode cX11_seed 5 = .ok (.ireturn, 1) := by decide +kernel
theorem dX11_seed_6 : decode cX11_seed 6 = .ok (.aload_n 0, 1) := by decide +kernel
theorem dX11_seed_7 : decode cX11_seed 7 = .ok (.getfield 45, 3) := by decide +kernel
theorem dX11_seed_10 : decode cX11_seed 10 = .ok (.getfield 336, 3) := by decide +kernel
theorem dX11_seed_13 : decode cX11_seed 13 = .ok (.istore_n 2, 1) := by decide +kernel
theorem dX11_seed_14 : decode cX11_seed 14 = .ok (.aload_n 0, 1) := by decide +kernel
theorem dX11_seed_15 : decode cX11_seed 15 = .ok (.getfield 45, 3) := by decide +kernel
theorem dX11_seed_18 : decode cX11_seed 18 = .ok (.iload_n 1, 1) := by decide +kernel
theorem dX11_seed_19 : decode cX11_seed 19 = .ok (.putfield 336, 3) := by decide +kernel
theorem dX11_seed_22 : decode cX11_seed 22 = .ok (.iload_n 2, 1) := by decide +kernel
theorem dX11_seed_23 : decode cX11_seed 23 = .ok (.ireturn, 1) := by decide +kernel
theorem dX11_undo_0 : decode cX11_undo 0 = .ok (.aload_n 0, 1) := by decide +kernel
theorem dX11_undo_1 : decode cX11_undo 1 = .ok (.getfield 60, 3) := by decide +kernel
theorem dX11_undo_4 : decode cX11_undo 4 = .ok (.aload_n 0, 1) := by decide +kernel
theorem dX11_undo_5 : decode cX11_undo 5 = .ok (.getfield 45, 3) := by decide +kernel
theorem dX11_undo_8 : decode cX11_undo 8 = .ok (.getfield 115, 3) := by decide +kernel
theorem dX11_undo_11 : decode cX11_undo 11 = .ok (.invokevirtual 234, 3) := by decide +kernel
theorem dX11_undo_14 : decode cX11_undo 14 = .ok (.ifCond .eq 13, 3) := by decide +kernel
theorem dX11_undo_27 : decode cX11_undo 27 = .ok (.iconst (-1), 1) := by decide +kernel
theorem dX11_undo_28 : decode cX11_undo 28 = .ok (.ireturn, 1) := by decide +kernel
theorem dX11_visit_0 : decode cX11_visit 0 = .ok (.aload_n 0, 1) := by decide +kernel
theorem dX11_visit_1 : decode cX11_visit 1 = .ok (.iload_n 1, 1) := by decide +kernel
theorem dX11_visit_2 : decode cX11_visit 2 = .ok (.invokevirtual 173, 3) := by decide +kernel
theorem dX11_visit_5 : decode cX11_visit 5 = .ok (.ifCond .eq 11, 3) := by decide +kernel
theorem dX11_visit_16 : decode cX11_visit 16 = .ok (.iconst (-1), 1) := by decide +kernel
theorem dX11_visit_17 : decode cX11_visit 17 = .ok (.ireturn, 1) := by decide +kernel
theorem dX11_votes_0 : decode cX11_votes 0 = .ok (.aload_n 0, 1) := by decide +kernel
theorem dX11_votes_1 : decode cX11_votes 1 = .ok (.getfield 45, 3) := by decide +kernel
theorem dX11_votes_4 : decode cX11_votes 4 = .ok (.getfield 53, 3) := by decide +kernel
theorem dX11_votes_7 : decode cX11_votes 7 = .ok (.getfield 194, 3) := by decide +kernel
theorem dX11_votes_10 : decode cX11_votes 10 = .ok (.ifCond .eq 25, 3) := by decide +kernel
theorem dX11_votes_35 : decode cX11_votes 35 = .ok (.bipush (-2), 2) := by decide +kernel
theorem dX11_votes_37 : decode cX11_votes 37 = .ok (.ireturn, 1) := by decide +kernel
theorem dX11_winOver_0 : decode cX11_winOver 0 = .ok (.aload_n 0, 1) := by decide +kernel
theorem dX11_winOver_1 : decode cX11_winOver 1 = .ok (.iload_n 1, 1) := by decide +kernel
theorem dX11_winOver_2 : decode cX11_winOver 2 = .ok (.invokevirtual 231, 3) := by decide +kernel
theorem dX11_winOver_5 : decode cX11_winOver 5 = .ok (.ifCond .eq 12, 3) := by decide +kernel
theorem dX11_winOver_17 : decode cX11_winOver 17 = .ok (.iconst (-1), 1) := by decide +kernel
theorem dX11_winOver_18 : decode cX11_winOver 18 = .ok (.ireturn, 1) := by decide +kernel
theorem dX11_winters_0 : decode cX11_winters 0 = .ok (.aload_n 0, 1) := by decide +kernel
theorem dX11_winters_1 : decode cX11_winters 1 = .ok (.getfield 45, 3) := by decide +kernel
theorem dX11_winters_4 : decode cX11_winters 4 = .ok (.getfield 53, 3) := by decide +kernel
theorem dX11_winters_7 : decode cX11_winters 7 = .ok (.getfield 194, 3) := by decide +kernel
theorem dX11_winters_10 : decode cX11_winters 10 = .ok (.ifCond .eq 25, 3) := by decide +kernel
theorem dX11_winters_35 : decode cX11_winters 35 = .ok (.iconst (-1), 1) := by decide +kernel
theorem dX11_winters_36 : decode cX11_winters 36 = .ok (.ireturn, 1) := by decide +kernel
theorem dX4_takeBack_0 : decode cX4_takeBack 0 = .ok (.aload_n 0, 1) := by decide +kernel
theorem dX4_takeBack_1 : decode cX4_takeBack 1 = .ok (.getfield 24, 3) := by decide +kernel
theorem dX4_takeBack_4 : decode cX4_takeBack 4 = .ok (.iconst 1, 1) := by decide +kernel
theorem dX4_takeBack_5 : decode cX4_takeBack 5 = .ok (.if_icmp .ge 5, 3) := by decide +kernel
theorem dX4_takeBack_8 : decode cX4_takeBack 8 = .ok (.iconst 0, 1) := by decide +kernel
theorem dX4_takeBack_9 : decode cX4_takeBack 9 = .ok (.ireturn, 1) := by decide +kernel
theorem li_0 : (0 : Int32).toInt = 0 := by decide
theorem li_3 : (3 : Int32).toInt = 3 := by decide
theorem li_m1 : ((-1) : Int32).toInt = -1 := by decide
theorem li_m2 : ((-2) : Int32).toInt = -2 := by decide
set_option maxHeartbeats 4000000 in
set_option maxRecDepth 100000 in
theorem c_isBoy (l : Launch) (dC : Nat → ClassId) (dI : Nat → Nat → Nat) (h0 : Nat) (tp : Nat) (cr : Nat) (rr : Nat) (ra : Nat) (nw : Nat) (im : Nat) (ps : Nat) (po : Nat) (dy : Nat) (cn : Nat) (tr : Nat) (ns : Nat) (nd : Nat) (nb : Nat) (nc : Nat) (nc0 : Nat) (nc1 : Nat) (nc2 : Nat) (nc3 : Nat) (nc4 : Nat) (nc5 : Nat) (nc6 : Nat) (nc7 : Nat) (nc8 : Nat) (nc9 : Nat) (a0 : Int32) (sz : Nat) : Met l yX11_isBoy (ws_u yX11_isBoy cX11_isBoy 2 (some .boolean)) ({ frames := 0, cells := 0, slots := 0, locals := 0 }) (va_Pc [.ref h0, .int a0] (cPre (dC, dI) [] [(h0, .inr (11, [.ref tp, .ref cr, .ref rr, .ref ra, .int 0, .ref nw, .ref im, .ref ps, .ref po, .ref dy, .ref cn, .ref tr])), (nw, .inr (10, [.ref nc, .ref ns, .int (-1), .int 0, .int 0, .ref nd, .ref nb, .int 0])), (nc, .inr (0, [.int 0, .int 0, .int 0, .int 0, .int 0, .int 0, .ref nc0, .ref nc1, .ref nc2, .ref nc3, .ref nc4, .ref nc5, .ref nc6, .ref nc7, .ref nc8, .ref nc9]))] sz)) (va_Qi (fun (r : Int32) (_ : Unit) => r = 0) (fun _ t => cPost (dC, dI) [] [(h0, .inr (11, [.ref tp, .ref cr, .ref rr, .ref ra, .int 0, .ref nw, .ref im, .ref ps, .ref po, .ref dy, .ref cn, .ref tr])), (nw, .inr (10, [.ref nc, .ref ns, .int (-1), .int 0, .int 0, .ref nd, .ref nb, .int 0])), (nc, .inr (0, [.int 0, .int 0, .int 0, .int 0, .int 0, .int 0, .ref nc0, .ref nc1, .ref nc2, .ref nc3, .ref nc4, .ref nc5, .ref nc6, .ref nc7, .ref nc8, .ref nc9]))] (va_A [(h0, .inr (11, [.ref tp, .ref cr, .ref rr, .ref ra, .int 0, .ref nw, .ref im, .ref ps, .ref po, .ref dy, .ref cn, .ref tr])), (nw, .inr (10, [.ref nc, .ref ns, .int (-1), .int 0, .int 0, .ref nd, .ref nb, .int 0])), (nc, .inr (0, [.int 0, .int 0, .int 0, .int 0, .int 0, .int 0, .ref nc0, .ref nc1, .ref nc2, .ref nc3, .ref nc4, .ref nc5, .ref nc6, .ref nc7, .ref nc8, .ref nc9]))] sz) t) (va_A [(h0, .inr (11, [.ref tp, .ref cr, .ref rr, .ref ra, .int 0, .ref nw, .ref im, .ref ps, .ref po, .ref dy, .ref cn, .ref tr])), (nw, .inr (10, [.ref nc, .ref ns, .int (-1), .int 0, .int 0, .ref nd, .ref nb, .int 0])), (nc, .inr (0, [.int 0, .int 0, .int 0, .int 0, .int 0, .int 0, .ref nc0, .ref nc1, .ref nc2, .ref nc3, .ref nc4, .ref nc5, .ref nc6, .ref nc7, .ref nc8, .ref nc9]))] sz)) 0 0 (va_A [(h0, .inr (11, [.ref tp, .ref cr, .ref rr, .ref ra, .int 0, .ref nw, .ref im, .ref ps, .ref po, .ref dy, .ref cn, .ref tr])), (nw, .inr (10, [.ref nc, .ref ns, .int (-1), .int 0, .int 0, .ref nd, .ref nb, .int 0])), (nc, .inr (0, [.int 0, .int 0, .int 0, .int 0, .int 0, .int 0, .ref nc0, .ref nc1, .ref nc2, .ref nc3, .ref nc4, .ref nc5, .ref nc6, .ref nc7, .ref nc8, .ref nc9]))] sz) := by
  refine Met.ofW (cc := cX11_isBoy) (maxL := 2) (ret := (some .boolean)) (by decide) rfl ?_
  intro p e s m args below meth c s₁ B hml hv
  obtain ⟨rfl, hsz, hP, hK, hD0, hE⟩ := hv
  have hx := B.exec
  have hb := B.bytes
  have hr := B.returns
  have hts0 := atoms_spec (ws := ws_u yX11_isBoy cX11_isBoy 2 (some .boolean)) B.pre
  have hts : ∀ w ∈ gT, w.before _ s = true := fun w h => hts0 w (List.mem_cons_of_mem _ h)
  have hown : s.vm.findClass RX11 = some m.cls := findClass_of_methodNamed B.named
  have hlocks := B.notSynchronized
  subst hsz
  have hD := hD0.self (sz := s.heap.size)
  generalize hAe : va_A [(h0, .inr (11, [.ref tp, .ref cr, .ref rr, .ref ra, .int 0, .ref nw, .ref im, .ref ps, .ref po, .ref dy, .ref cn, .ref tr])), (nw, .inr (10, [.ref nc, .ref ns, .int (-1), .int 0, .int 0, .ref nd, .ref nb, .int 0])), (nc, .inr (0, [.int 0, .int 0, .int 0, .int 0, .int 0, .int 0, .ref nc0, .ref nc1, .ref nc2, .ref nc3, .ref nc4, .ref nc5, .ref nc6, .ref nc7, .ref nc8, .ref nc9]))] s.heap.size = A at hD ⊢
  have hA : ∀ q : Nat, s.heap.size ≤ q → A q := fun q h => by rw [← hAe]; exact Or.inr h
  have hS : va_S A s.heap s.heap [] := va_S.rf
  have hl := lv_entry ([.ref h0, .int a0]) (n := 2) (Nat.le_of_ble_eq_true rfl)
  rw [lg_entry_eq]
  generalize (lg_sl ([.ref h0, .int a0]) ++ List.replicate (2 - (lg_sl ([.ref h0, .int a0])).length) Slot.unset).toArray = ls at hl ⊢
  have hl : lv_has ls 2 [(0, .ref h0), (1, .int a0)] := hl
  have hP : va_P (dC, dI) vwCl [(h0, .inr (11, [.ref tp, .ref cr, .ref rr, .ref ra, .int 0, .ref nw, .ref im, .ref ps, .ref po, .ref dy, .ref cn, .ref tr])), (nw, .inr (10, [.ref nc, .ref ns, .int (-1), .int 0, .int 0, .ref nd, .ref nb, .int 0])), (nc, .inr (0, [.int 0, .int 0, .int 0, .int 0, .int 0, .int 0, .ref nc0, .ref nc1, .ref nc2, .ref nc3, .ref nc4, .ref nc5, .ref nc6, .ref nc7, .ref nc8, .ref nc9]))] s.heap := hP
  try clear hAe
  refine lv_iload_n hx hb dX11_isBoy_0 rfl (lv_at hl 1 rfl) ?_
  refine lv_if_lt (tgt := 22) hx hb dX11_isBoy_1 (by decide) (fun c_1 => ?_) (fun c_1 => ?_)
  · refine lv_iconst (v := 0) hx hb dX11_isBoy_22 (by decide) ?_
    have hP9 := hP.sub (ws' := [(h0, .inr (11, [.ref tp, .ref cr, .ref rr, .ref ra, .int 0, .ref nw, .ref im, .ref ps, .ref po, .ref dy, .ref cn, .ref tr])), (nw, .inr (10, [.ref nc, .ref ns, .int (-1), .int 0, .int 0, .ref nd, .ref nb, .int 0])), (nc, .inr (0, [.int 0, .int 0, .int 0, .int 0, .int 0, .int 0, .ref nc0, .ref nc1, .ref nc2, .ref nc3, .ref nc4, .ref nc5, .ref nc6, .ref nc7, .ref nc8, .ref nc9]))]) [0, 1, 2] rfl
    have hD9 := hD.sub (ws' := [(h0, .inr (11, [.ref tp, .ref cr, .ref rr, .ref ra, .int 0, .ref nw, .ref im, .ref ps, .ref po, .ref dy, .ref cn, .ref tr])), (nw, .inr (10, [.ref nc, .ref ns, .int (-1), .int 0, .int 0, .ref nd, .ref nb, .int 0])), (nc, .inr (0, [.int 0, .int 0, .int 0, .int 0, .int 0, .int 0, .ref nc0, .ref nc1, .ref nc2, .ref nc3, .ref nc4, .ref nc5, .ref nc6, .ref nc7, .ref nc8, .ref nc9]))]) [0, 1, 2] (by decide) rfl
    have hK9 := hK.sub (tys' := []) [] rfl
    refine W.widen (k := 0) (n := 0) (Nat.le_of_ble_eq_true rfl) (Nat.le_of_ble_eq_true rfl) ?_
    exact W.zret (v := 0) hx hb hr rfl (fun t ht hW => ⟨⟨0, (), rfl, rfl, ⟨by rw [ht]; exact hP9, va_K.moved hW.alike hK9, hD9⟩⟩, hS.F ht⟩) hS.2.2 dX11_isBoy_23
  · refine lv_iload_n hx hb dX11_isBoy_4 rfl (lv_at hl 1 rfl) ?_
    refine lv_aload_n hx hb dX11_isBoy_5 rfl (lv_at hl 0 rfl) ?_
    refine va_get (D := (dC, dI)) (ci := 11) (v := .ref nw) (C := RX11) (T := TX11) (N := 12) hx hb hts iX11 hown hK hP 0 rfl rfl 5 (by decide) (hts _ tw_428) (fun _ h9 => h9) rfl dX11_isBoy_6 ?_
    refine va_get (D := (dC, dI)) (ci := 10) (v := .ref nc) (C := RX10) (T := TX10) (N := 8) hx hb hts iX10 hown hK hP 1 rfl rfl 0 (by decide) (hts _ tw_282) (fun _ h9 => h9) rfl dX11_isBoy_9 ?_
    refine va_get (D := (dC, dI)) (ci := 0) (v := .int 0) (C := RX0) (T := TX0) (N := 16) hx hb hts iX0 hown hK hP 2 rfl rfl 3 (by decide) (hts _ tw_80) (fun _ h9 => h9) rfl dX11_isBoy_12 ?_
    refine lv_icmp_ge (tgt := 22) hx hb dX11_isBoy_15 (by decide) (fun c_2 => ?_) (fun c_2 => (by exfalso; simp only [fa_lt, fa_le, fa_eq, li_0] at c_1 c_2; omega))
    refine lv_iconst (v := 0) hx hb dX11_isBoy_22 (by decide) ?_
    have hP9 := hP.sub (ws' := [(h0, .inr (11, [.ref tp, .ref cr, .ref rr, .ref ra, .int 0, .ref nw, .ref im, .ref ps, .ref po, .ref dy, .ref cn, .ref tr])), (nw, .inr (10, [.ref nc, .ref ns, .int (-1), .int 0, .int 0, .ref nd, .ref nb, .int 0])), (nc, .inr (0, [.int 0, .int 0, .int 0, .int 0, .int 0, .int 0, .ref nc0, .ref nc1, .ref nc2, .ref nc3, .ref nc4, .ref nc5, .ref nc6, .ref nc7, .ref nc8, .ref nc9]))]) [0, 1, 2] rfl
    have hD9 := hD.sub (ws' := [(h0, .inr (11, [.ref tp, .ref cr, .ref rr, .ref ra, .int 0, .ref nw, .ref im, .ref ps, .ref po, .ref dy, .ref cn, .ref tr])), (nw, .inr (10, [.ref nc, .ref ns, .int (-1), .int 0, .int 0, .ref nd, .ref nb, .int 0])), (nc, .inr (0, [.int 0, .int 0, .int 0, .int 0, .int 0, .int 0, .ref nc0, .ref nc1, .ref nc2, .ref nc3, .ref nc4, .ref nc5, .ref nc6, .ref nc7, .ref nc8, .ref nc9]))]) [0, 1, 2] (by decide) rfl
    have hK9 := hK.sub (tys' := []) [] rfl
    refine W.widen (k := 0) (n := 0) (Nat.le_of_ble_eq_true rfl) (Nat.le_of_ble_eq_true rfl) ?_
    exact W.zret (v := 0) hx hb hr rfl (fun t ht hW => ⟨⟨0, (), rfl, rfl, ⟨by rw [ht]; exact hP9, va_K.moved hW.alike hK9, hD9⟩⟩, hS.F ht⟩) hS.2.2 dX11_isBoy_23
set_option maxHeartbeats 4000000 in
set_option maxRecDepth 100000 in
theorem c_isCanon (l : Launch) (dC : Nat → ClassId) (dI : Nat → Nat → Nat) (h0 : Nat) (tp : Nat) (cr : Nat) (rr : Nat) (ra : Nat) (nw : Nat) (im : Nat) (ps : Nat) (po : Nat) (dy : Nat) (cn : Nat) (tr : Nat) (ns : Nat) (nd : Nat) (nb : Nat) (nc : Nat) (nc0 : Nat) (nc1 : Nat) (nc2 : Nat) (nc3 : Nat) (nc4 : Nat) (nc5 : Nat) (nc6 : Nat) (nc7 : Nat) (nc8 : Nat) (nc9 : Nat) (a0 : Int32) (sz : Nat) : Met l yX11_isCanon (ws_u yX11_isCanon cX11_isCanon 2 (some .boolean)) ({ frames := 0, cells := 0, slots := 0, locals := 0 }) (va_Pc [.ref h0, .int a0] (cPre (dC, dI) [] [(h0, .inr (11, [.ref tp, .ref cr, .ref rr, .ref ra, .int 0, .ref nw, .ref im, .ref ps, .ref po, .ref dy, .ref cn, .ref tr])), (nw, .inr (10, [.ref nc, .ref ns, .int (-1), .int 0, .int 0, .ref nd, .ref nb, .int 0])), (nc, .inr (0, [.int 0, .int 0, .int 0, .int 0, .int 0, .int 0, .ref nc0, .ref nc1, .ref nc2, .ref nc3, .ref nc4, .ref nc5, .ref nc6, .ref nc7, .ref nc8, .ref nc9]))] sz)) (va_Qi (fun (r : Int32) (_ : Unit) => r = 0) (fun _ t => cPost (dC, dI) [] [(h0, .inr (11, [.ref tp, .ref cr, .ref rr, .ref ra, .int 0, .ref nw, .ref im, .ref ps, .ref po, .ref dy, .ref cn, .ref tr])), (nw, .inr (10, [.ref nc, .ref ns, .int (-1), .int 0, .int 0, .ref nd, .ref nb, .int 0])), (nc, .inr (0, [.int 0, .int 0, .int 0, .int 0, .int 0, .int 0, .ref nc0, .ref nc1, .ref nc2, .ref nc3, .ref nc4, .ref nc5, .ref nc6, .ref nc7, .ref nc8, .ref nc9]))] (va_A [(h0, .inr (11, [.ref tp, .ref cr, .ref rr, .ref ra, .int 0, .ref nw, .ref im, .ref ps, .ref po, .ref dy, .ref cn, .ref tr])), (nw, .inr (10, [.ref nc, .ref ns, .int (-1), .int 0, .int 0, .ref nd, .ref nb, .int 0])), (nc, .inr (0, [.int 0, .int 0, .int 0, .int 0, .int 0, .int 0, .ref nc0, .ref nc1, .ref nc2, .ref nc3, .ref nc4, .ref nc5, .ref nc6, .ref nc7, .ref nc8, .ref nc9]))] sz) t) (va_A [(h0, .inr (11, [.ref tp, .ref cr, .ref rr, .ref ra, .int 0, .ref nw, .ref im, .ref ps, .ref po, .ref dy, .ref cn, .ref tr])), (nw, .inr (10, [.ref nc, .ref ns, .int (-1), .int 0, .int 0, .ref nd, .ref nb, .int 0])), (nc, .inr (0, [.int 0, .int 0, .int 0, .int 0, .int 0, .int 0, .ref nc0, .ref nc1, .ref nc2, .ref nc3, .ref nc4, .ref nc5, .ref nc6, .ref nc7, .ref nc8, .ref nc9]))] sz)) 0 0 (va_A [(h0, .inr (11, [.ref tp, .ref cr, .ref rr, .ref ra, .int 0, .ref nw, .ref im, .ref ps, .ref po, .ref dy, .ref cn, .ref tr])), (nw, .inr (10, [.ref nc, .ref ns, .int (-1), .int 0, .int 0, .ref nd, .ref nb, .int 0])), (nc, .inr (0, [.int 0, .int 0, .int 0, .int 0, .int 0, .int 0, .ref nc0, .ref nc1, .ref nc2, .ref nc3, .ref nc4, .ref nc5, .ref nc6, .ref nc7, .ref nc8, .ref nc9]))] sz) := by
  refine Met.ofW (cc := cX11_isCanon) (maxL := 2) (ret := (some .boolean)) (by decide) rfl ?_
  intro p e s m args below meth c s₁ B hml hv
  obtain ⟨rfl, hsz, hP, hK, hD0, hE⟩ := hv
  have hx := B.exec
  have hb := B.bytes
  have hr := B.returns
  have hts0 := atoms_spec (ws := ws_u yX11_isCanon cX11_isCanon 2 (some .boolean)) B.pre
  have hts : ∀ w ∈ gT, w.before _ s = true := fun w h => hts0 w (List.mem_cons_of_mem _ h)
  have hown : s.vm.findClass RX11 = some m.cls := findClass_of_methodNamed B.named
  have hlocks := B.notSynchronized
  subst hsz
  have hD := hD0.self (sz := s.heap.size)
  generalize hAe : va_A [(h0, .inr (11, [.ref tp, .ref cr, .ref rr, .ref ra, .int 0, .ref nw, .ref im, .ref ps, .ref po, .ref dy, .ref cn, .ref tr])), (nw, .inr (10, [.ref nc, .ref ns, .int (-1), .int 0, .int 0, .ref nd, .ref nb, .int 0])), (nc, .inr (0, [.int 0, .int 0, .int 0, .int 0, .int 0, .int 0, .ref nc0, .ref nc1, .ref nc2, .ref nc3, .ref nc4, .ref nc5, .ref nc6, .ref nc7, .ref nc8, .ref nc9]))] s.heap.size = A at hD ⊢
  have hA : ∀ q : Nat, s.heap.size ≤ q → A q := fun q h => by rw [← hAe]; exact Or.inr h
  have hS : va_S A s.heap s.heap [] := va_S.rf
  have hl := lv_entry ([.ref h0, .int a0]) (n := 2) (Nat.le_of_ble_eq_true rfl)
  rw [lg_entry_eq]
  generalize (lg_sl ([.ref h0, .int a0]) ++ List.replicate (2 - (lg_sl ([.ref h0, .int a0])).length) Slot.unset).toArray = ls at hl ⊢
  have hl : lv_has ls 2 [(0, .ref h0), (1, .int a0)] := hl
  have hP : va_P (dC, dI) vwCl [(h0, .inr (11, [.ref tp, .ref cr, .ref rr, .ref ra, .int 0, .ref nw, .ref im, .ref ps, .ref po, .ref dy, .ref cn, .ref tr])), (nw, .inr (10, [.ref nc, .ref ns, .int (-1), .int 0, .int 0, .ref nd, .ref nb, .int 0])), (nc, .inr (0, [.int 0, .int 0, .int 0, .int 0, .int 0, .int 0, .ref nc0, .ref nc1, .ref nc2, .ref nc3, .ref nc4, .ref nc5, .ref nc6, .ref nc7, .ref nc8, .ref nc9]))] s.heap := hP
  try clear hAe
  refine lv_iload_n hx hb dX11_isCanon_0 rfl (lv_at hl 1 rfl) ?_
  refine lv_if_lt (tgt := 22) hx hb dX11_isCanon_1 (by decide) (fun c_1 => ?_) (fun c_1 => ?_)
  · refine lv_iconst (v := 0) hx hb dX11_isCanon_22 (by decide) ?_
    have hP9 := hP.sub (ws' := [(h0, .inr (11, [.ref tp, .ref cr, .ref rr, .ref ra, .int 0, .ref nw, .ref im, .ref ps, .ref po, .ref dy, .ref cn, .ref tr])), (nw, .inr (10, [.ref nc, .ref ns, .int (-1), .int 0, .int 0, .ref nd, .ref nb, .int 0])), (nc, .inr (0, [.int 0, .int 0, .int 0, .int 0, .int 0, .int 0, .ref nc0, .ref nc1, .ref nc2, .ref nc3, .ref nc4, .ref nc5, .ref nc6, .ref nc7, .ref nc8, .ref nc9]))]) [0, 1, 2] rfl
    have hD9 := hD.sub (ws' := [(h0, .inr (11, [.ref tp, .ref cr, .ref rr, .ref ra, .int 0, .ref nw, .ref im, .ref ps, .ref po, .ref dy, .ref cn, .ref tr])), (nw, .inr (10, [.ref nc, .ref ns, .int (-1), .int 0, .int 0, .ref nd, .ref nb, .int 0])), (nc, .inr (0, [.int 0, .int 0, .int 0, .int 0, .int 0, .int 0, .ref nc0, .ref nc1, .ref nc2, .ref nc3, .ref nc4, .ref nc5, .ref nc6, .ref nc7, .ref nc8, .ref nc9]))]) [0, 1, 2] (by decide) rfl
    have hK9 := hK.sub (tys' := []) [] rfl
    refine W.widen (k := 0) (n := 0) (Nat.le_of_ble_eq_true rfl) (Nat.le_of_ble_eq_true rfl) ?_
    exact W.zret (v := 0) hx hb hr rfl (fun t ht hW => ⟨⟨0, (), rfl, rfl, ⟨by rw [ht]; exact hP9, va_K.moved hW.alike hK9, hD9⟩⟩, hS.F ht⟩) hS.2.2 dX11_isCanon_23
  · refine lv_iload_n hx hb dX11_isCanon_4 rfl (lv_at hl 1 rfl) ?_
    refine lv_aload_n hx hb dX11_isCanon_5 rfl (lv_at hl 0 rfl) ?_
    refine va_get (D := (dC, dI)) (ci := 11) (v := .ref nw) (C := RX11) (T := TX11) (N := 12) hx hb hts iX11 hown hK hP 0 rfl rfl 5 (by decide) (hts _ tw_428) (fun _ h9 => h9) rfl dX11_isCanon_6 ?_
    refine va_get (D := (dC, dI)) (ci := 10) (v := .ref nc) (C := RX10) (T := TX10) (N := 8) hx hb hts iX10 hown hK hP 1 rfl rfl 0 (by decide) (hts _ tw_282) (fun _ h9 => h9) rfl dX11_isCanon_9 ?_
    refine va_get (D := (dC, dI)) (ci := 0) (v := .int 0) (C := RX0) (T := TX0) (N := 16) hx hb hts iX0 hown hK hP 2 rfl rfl 4 (by decide) (hts _ tw_85) (fun _ h9 => h9) rfl dX11_isCanon_12 ?_
    refine lv_icmp_ge (tgt := 22) hx hb dX11_isCanon_15 (by decide) (fun c_2 => ?_) (fun c_2 => (by exfalso; simp only [fa_lt, fa_le, fa_eq, li_0] at c_1 c_2; omega))
    refine lv_iconst (v := 0) hx hb dX11_isCanon_22 (by decide) ?_
    have hP9 := hP.sub (ws' := [(h0, .inr (11, [.ref tp, .ref cr, .ref rr, .ref ra, .int 0, .ref nw, .ref im, .ref ps, .ref po, .ref dy, .ref cn, .ref tr])), (nw, .inr (10, [.ref nc, .ref ns, .int (-1), .int 0, .int 0, .ref nd, .ref nb, .int 0])), (nc, .inr (0, [.int 0, .int 0, .int 0, .int 0, .int 0, .int 0, .ref nc0, .ref nc1, .ref nc2, .ref nc3, .ref nc4, .ref nc5, .ref nc6, .ref nc7, .ref nc8, .ref nc9]))]) [0, 1, 2] rfl
    have hD9 := hD.sub (ws' := [(h0, .inr (11, [.ref tp, .ref cr, .ref rr, .ref ra, .int 0, .ref nw, .ref im, .ref ps, .ref po, .ref dy, .ref cn, .ref tr])), (nw, .inr (10, [.ref nc, .ref ns, .int (-1), .int 0, .int 0, .ref nd, .ref nb, .int 0])), (nc, .inr (0, [.int 0, .int 0, .int 0, .int 0, .int 0, .int 0, .ref nc0, .ref nc1, .ref nc2, .ref nc3, .ref nc4, .ref nc5, .ref nc6, .ref nc7, .ref nc8, .ref nc9]))]) [0, 1, 2] (by decide) rfl
    have hK9 := hK.sub (tys' := []) [] rfl
    refine W.widen (k := 0) (n := 0) (Nat.le_of_ble_eq_true rfl) (Nat.le_of_ble_eq_true rfl) ?_
    exact W.zret (v := 0) hx hb hr rfl (fun t ht hW => ⟨⟨0, (), rfl, rfl, ⟨by rw [ht]; exact hP9, va_K.moved hW.alike hK9, hD9⟩⟩, hS.F ht⟩) hS.2.2 dX11_isCanon_23
set_option maxHeartbeats 4000000 in
set_option maxRecDepth 100000 in
theorem c_isFarm (l : Launch) (dC : Nat → ClassId) (dI : Nat → Nat → Nat) (h0 : Nat) (tp : Nat) (cr : Nat) (rr : Nat) (ra : Nat) (nw : Nat) (im : Nat) (ps : Nat) (po : Nat) (dy : Nat) (cn : Nat) (tr : Nat) (ns : Nat) (nd : Nat) (nb : Nat) (nc : Nat) (nc0 : Nat) (nc1 : Nat) (nc2 : Nat) (nc3 : Nat) (nc4 : Nat) (nc5 : Nat) (nc6 : Nat) (nc7 : Nat) (nc8 : Nat) (nc9 : Nat) (a0 : Int32) (sz : Nat) : Met l yX11_isFarm (ws_u yX11_isFarm cX11_isFarm 2 (some .boolean)) ({ frames := 0, cells := 0, slots := 0, locals := 0 }) (va_Pc [.ref h0, .int a0] (cPre (dC, dI) [] [(h0, .inr (11, [.ref tp, .ref cr, .ref rr, .ref ra, .int 0, .ref nw, .ref im, .ref ps, .ref po, .ref dy, .ref cn, .ref tr])), (nw, .inr (10, [.ref nc, .ref ns, .int (-1), .int 0, .int 0, .ref nd, .ref nb, .int 0])), (nc, .inr (0, [.int 0, .int 0, .int 0, .int 0, .int 0, .int 0, .ref nc0, .ref nc1, .ref nc2, .ref nc3, .ref nc4, .ref nc5, .ref nc6, .ref nc7, .ref nc8, .ref nc9]))] sz)) (va_Qi (fun (r : Int32) (_ : Unit) => r = 0) (fun _ t => cPost (dC, dI) [] [(h0, .inr (11, [.ref tp, .ref cr, .ref rr, .ref ra, .int 0, .ref nw, .ref im, .ref ps, .ref po, .ref dy, .ref cn, .ref tr])), (nw, .inr (10, [.ref nc, .ref ns, .int (-1), .int 0, .int 0, .ref nd, .ref nb, .int 0])), (nc, .inr (0, [.int 0, .int 0, .int 0, .int 0, .int 0, .int 0, .ref nc0, .ref nc1, .ref nc2, .ref nc3, .ref nc4, .ref nc5, .ref nc6, .ref nc7, .ref nc8, .ref nc9]))] (va_A [(h0, .inr (11, [.ref tp, .ref cr, .ref rr, .ref ra, .int 0, .ref nw, .ref im, .ref ps, .ref po, .ref dy, .ref cn, .ref tr])), (nw, .inr (10, [.ref nc, .ref ns, .int (-1), .int 0, .int 0, .ref nd, .ref nb, .int 0])), (nc, .inr (0, [.int 0, .int 0, .int 0, .int 0, .int 0, .int 0, .ref nc0, .ref nc1, .ref nc2, .ref nc3, .ref nc4, .ref nc5, .ref nc6, .ref nc7, .ref nc8, .ref nc9]))] sz) t) (va_A [(h0, .inr (11, [.ref tp, .ref cr, .ref rr, .ref ra, .int 0, .ref nw, .ref im, .ref ps, .ref po, .ref dy, .ref cn, .ref tr])), (nw, .inr (10, [.ref nc, .ref ns, .int (-1), .int 0, .int 0, .ref nd, .ref nb, .int 0])), (nc, .inr (0, [.int 0, .int 0, .int 0, .int 0, .int 0, .int 0, .ref nc0, .ref nc1, .ref nc2, .ref nc3, .ref nc4, .ref nc5, .ref nc6, .ref nc7, .ref nc8, .ref nc9]))] sz)) 0 0 (va_A [(h0, .inr (11, [.ref tp, .ref cr, .ref rr, .ref ra, .int 0, .ref nw, .ref im, .ref ps, .ref po, .ref dy, .ref cn, .ref tr])), (nw, .inr (10, [.ref nc, .ref ns, .int (-1), .int 0, .int 0, .ref nd, .ref nb, .int 0])), (nc, .inr (0, [.int 0, .int 0, .int 0, .int 0, .int 0, .int 0, .ref nc0, .ref nc1, .ref nc2, .ref nc3, .ref nc4, .ref nc5, .ref nc6, .ref nc7, .ref nc8, .ref nc9]))] sz) := by
  refine Met.ofW (cc := cX11_isFarm) (maxL := 2) (ret := (some .boolean)) (by decide) rfl ?_
  intro p e s m args below meth c s₁ B hml hv
  obtain ⟨rfl, hsz, hP, hK, hD0, hE⟩ := hv
  have hx := B.exec
  have hb := B.bytes
  have hr := B.returns
  have hts0 := atoms_spec (ws := ws_u yX11_isFarm cX11_isFarm 2 (some .boolean)) B.pre
  have hts : ∀ w ∈ gT, w.before _ s = true := fun w h => hts0 w (List.mem_cons_of_mem _ h)
  have hown : s.vm.findClass RX11 = some m.cls := findClass_of_methodNamed B.named
  have hlocks := B.notSynchronized
  subst hsz
  have hD := hD0.self (sz := s.heap.size)
  generalize hAe : va_A [(h0, .inr (11, [.ref tp, .ref cr, .ref rr, .ref ra, .int 0, .ref nw, .ref im, .ref ps, .ref po, .ref dy, .ref cn, .ref tr])), (nw, .inr (10, [.ref nc, .ref ns, .int (-1), .int 0, .int 0, .ref nd, .ref nb, .int 0])), (nc, .inr (0, [.int 0, .int 0, .int 0, .int 0, .int 0, .int 0, .ref nc0, .ref nc1, .ref nc2, .ref nc3, .ref nc4, .ref nc5, .ref nc6, .ref nc7, .ref nc8, .ref nc9]))] s.heap.size = A at hD ⊢
  have hA : ∀ q : Nat, s.heap.size ≤ q → A q := fun q h => by rw [← hAe]; exact Or.inr h
  have hS : va_S A s.heap s.heap [] := va_S.rf
  have hl := lv_entry ([.ref h0, .int a0]) (n := 2) (Nat.le_of_ble_eq_true rfl)
  rw [lg_entry_eq]
  generalize (lg_sl ([.ref h0, .int a0]) ++ List.replicate (2 - (lg_sl ([.ref h0, .int a0])).length) Slot.unset).toArray = ls at hl ⊢
  have hl : lv_has ls 2 [(0, .ref h0), (1, .int a0)] := hl
  have hP : va_P (dC, dI) vwCl [(h0, .inr (11, [.ref tp, .ref cr, .ref rr, .ref ra, .int 0, .ref nw, .ref im, .ref ps, .ref po, .ref dy, .ref cn, .ref tr])), (nw, .inr (10, [.ref nc, .ref ns, .int (-1), .int 0, .int 0, .ref nd, .ref nb, .int 0])), (nc, .inr (0, [.int 0, .int 0, .int 0, .int 0, .int 0, .int 0, .ref nc0, .ref nc1, .ref nc2, .ref nc3, .ref nc4, .ref nc5, .ref nc6, .ref nc7, .ref nc8, .ref nc9]))] s.heap := hP
  try clear hAe
  refine lv_iload_n hx hb dX11_isFarm_0 rfl (lv_at hl 1 rfl) ?_
  refine lv_if_lt (tgt := 22) hx hb dX11_isFarm_1 (by decide) (fun c_1 => ?_) (fun c_1 => ?_)
  · refine lv_iconst (v := 0) hx hb dX11_isFarm_22 (by decide) ?_
    have hP9 := hP.sub (ws' := [(h0, .inr (11, [.ref tp, .ref cr, .ref rr, .ref ra, .int 0, .ref nw, .ref im, .ref ps, .ref po, .ref dy, .ref cn, .ref tr])), (nw, .inr (10, [.ref nc, .ref ns, .int (-1), .int 0, .int 0, .ref nd, .ref nb, .int 0])), (nc, .inr (0, [.int 0, .int 0, .int 0, .int 0, .int 0, .int 0, .ref nc0, .ref nc1, .ref nc2, .ref nc3, .ref nc4, .ref nc5, .ref nc6, .ref nc7, .ref nc8, .ref nc9]))]) [0, 1, 2] rfl
    have hD9 := hD.sub (ws' := [(h0, .inr (11, [.ref tp, .ref cr, .ref rr, .ref ra, .int 0, .ref nw, .ref im, .ref ps, .ref po, .ref dy, .ref cn, .ref tr])), (nw, .inr (10, [.ref nc, .ref ns, .int (-1), .int 0, .int 0, .ref nd, .ref nb, .int 0])), (nc, .inr (0, [.int 0, .int 0, .int 0, .int 0, .int 0, .int 0, .ref nc0, .ref nc1, .ref nc2, .ref nc3, .ref nc4, .ref nc5, .ref nc6, .ref nc7, .ref nc8, .ref nc9]))]) [0, 1, 2] (by decide) rfl
    have hK9 := hK.sub (tys' := []) [] rfl
    refine W.widen (k := 0) (n := 0) (Nat.le_of_ble_eq_true rfl) (Nat.le_of_ble_eq_true rfl) ?_
    exact W.zret (v := 0) hx hb hr rfl (fun t ht hW => ⟨⟨0, (), rfl, rfl, ⟨by rw [ht]; exact hP9, va_K.moved hW.alike hK9, hD9⟩⟩, hS.F ht⟩) hS.2.2 dX11_isFarm_23
  · refine lv_iload_n hx hb dX11_isFarm_4 rfl (lv_at hl 1 rfl) ?_
    refine lv_aload_n hx hb dX11_isFarm_5 rfl (lv_at hl 0 rfl) ?_
    refine va_get (D := (dC, dI)) (ci := 11) (v := .ref nw) (C := RX11) (T := TX11) (N := 12) hx hb hts iX11 hown hK hP 0 rfl rfl 5 (by decide) (hts _ tw_428) (fun _ h9 => h9) rfl dX11_isFarm_6 ?_
    refine va_get (D := (dC, dI)) (ci := 10) (v := .ref nc) (C := RX10) (T := TX10) (N := 8) hx hb hts iX10 hown hK hP 1 rfl rfl 0 (by decide) (hts _ tw_282) (fun _ h9 => h9) rfl dX11_isFarm_9 ?_
    refine va_get (D := (dC, dI)) (ci := 0) (v := .int 0) (C := RX0) (T := TX0) (N := 16) hx hb hts iX0 hown hK hP 2 rfl rfl 5 (by decide) (hts _ tw_89) (fun _ h9 => h9) rfl dX11_isFarm_12 ?_
    refine lv_icmp_ge (tgt := 22) hx hb dX11_isFarm_15 (by decide) (fun c_2 => ?_) (fun c_2 => (by exfalso; simp only [fa_lt, fa_le, fa_eq, li_0] at c_1 c_2; omega))
    refine lv_iconst (v := 0) hx hb dX11_isFarm_22 (by decide) ?_
    have hP9 := hP.sub (ws' := [(h0, .inr (11, [.ref tp, .ref cr, .ref rr, .ref ra, .int 0, .ref nw, .ref im, .ref ps, .ref po, .ref dy, .ref cn, .ref tr])), (nw, .inr (10, [.ref nc, .ref ns, .int (-1), .int 0, .int 0, .ref nd, .ref nb, .int 0])), (nc, .inr (0, [.int 0, .int 0, .int 0, .int 0, .int 0, .int 0, .ref nc0, .ref nc1, .ref nc2, .ref nc3, .ref nc4, .ref nc5, .ref nc6, .ref nc7, .ref nc8, .ref nc9]))]) [0, 1, 2] rfl
    have hD9 := hD.sub (ws' := [(h0, .inr (11, [.ref tp, .ref cr, .ref rr, .ref ra, .int 0, .ref nw, .ref im, .ref ps, .ref po, .ref dy, .ref cn, .ref tr])), (nw, .inr (10, [.ref nc, .ref ns, .int (-1), .int 0, .int 0, .ref nd, .ref nb, .int 0])), (nc, .inr (0, [.int 0, .int 0, .int 0, .int 0, .int 0, .int 0, .ref nc0, .ref nc1, .ref nc2, .ref nc3, .ref nc4, .ref nc5, .ref nc6, .ref nc7, .ref nc8, .ref nc9]))]) [0, 1, 2] (by decide) rfl
    have hK9 := hK.sub (tys' := []) [] rfl
    refine W.widen (k := 0) (n := 0) (Nat.le_of_ble_eq_true rfl) (Nat.le_of_ble_eq_true rfl) ?_
    exact W.zret (v := 0) hx hb hr rfl (fun t ht hW => ⟨⟨0, (), rfl, rfl, ⟨by rw [ht]; exact hP9, va_K.moved hW.alike hK9, hD9⟩⟩, hS.F ht⟩) hS.2.2 dX11_isFarm_23
set_option maxHeartbeats 4000000 in
set_option maxRecDepth 100000 in
theorem c_isSinging (l : Launch) (dC : Nat → ClassId) (dI : Nat → Nat → Nat) (h0 : Nat) (tp : Nat) (cr : Nat) (rr : Nat) (ra : Nat) (nw : Nat) (im : Nat) (ps : Nat) (po : Nat) (dy : Nat) (cn : Nat) (tr : Nat) (ns : Nat) (nd : Nat) (nb : Nat) (nc : Nat) (nc0 : Nat) (nc1 : Nat) (nc2 : Nat) (nc3 : Nat) (nc4 : Nat) (nc5 : Nat) (nc6 : Nat) (nc7 : Nat) (nc8 : Nat) (nc9 : Nat) (a0 : Int32) (sz : Nat) : Met l yX11_isSinging (ws_u yX11_isSinging cX11_isSinging 2 (some .boolean)) ({ frames := 1, cells := 0, slots := 0, locals := 21 }) (va_Pc [.ref h0, .int a0] (cPre (dC, dI) [] [(h0, .inr (11, [.ref tp, .ref cr, .ref rr, .ref ra, .int 0, .ref nw, .ref im, .ref ps, .ref po, .ref dy, .ref cn, .ref tr])), (nw, .inr (10, [.ref nc, .ref ns, .int (-1), .int 0, .int 0, .ref nd, .ref nb, .int 0])), (nc, .inr (0, [.int 0, .int 0, .int 0, .int 0, .int 0, .int 0, .ref nc0, .ref nc1, .ref nc2, .ref nc3, .ref nc4, .ref nc5, .ref nc6, .ref nc7, .ref nc8, .ref nc9]))] sz)) (va_Qi (fun (r : Int32) (_ : Unit) => r = 0) (fun _ t => cPost (dC, dI) [] [(h0, .inr (11, [.ref tp, .ref cr, .ref rr, .ref ra, .int 0, .ref nw, .ref im, .ref ps, .ref po, .ref dy, .ref cn, .ref tr])), (nw, .inr (10, [.ref nc, .ref ns, .int (-1), .int 0, .int 0, .ref nd, .ref nb, .int 0])), (nc, .inr (0, [.int 0, .int 0, .int 0, .int 0, .int 0, .int 0, .ref nc0, .ref nc1, .ref nc2, .ref nc3, .ref nc4, .ref nc5, .ref nc6, .ref nc7, .ref nc8, .ref nc9]))] (va_A [(h0, .inr (11, [.ref tp, .ref cr, .ref rr, .ref ra, .int 0, .ref nw, .ref im, .ref ps, .ref po, .ref dy, .ref cn, .ref tr])), (nw, .inr (10, [.ref nc, .ref ns, .int (-1), .int 0, .int 0, .ref nd, .ref nb, .int 0])), (nc, .inr (0, [.int 0, .int 0, .int 0, .int 0, .int 0, .int 0, .ref nc0, .ref nc1, .ref nc2, .ref nc3, .ref nc4, .ref nc5, .ref nc6, .ref nc7, .ref nc8, .ref nc9]))] sz) t) (va_A [(h0, .inr (11, [.ref tp, .ref cr, .ref rr, .ref ra, .int 0, .ref nw, .ref im, .ref ps, .ref po, .ref dy, .ref cn, .ref tr])), (nw, .inr (10, [.ref nc, .ref ns, .int (-1), .int 0, .int 0, .ref nd, .ref nb, .int 0])), (nc, .inr (0, [.int 0, .int 0, .int 0, .int 0, .int 0, .int 0, .ref nc0, .ref nc1, .ref nc2, .ref nc3, .ref nc4, .ref nc5, .ref nc6, .ref nc7, .ref nc8, .ref nc9]))] sz)) 0 0 (va_A [(h0, .inr (11, [.ref tp, .ref cr, .ref rr, .ref ra, .int 0, .ref nw, .ref im, .ref ps, .ref po, .ref dy, .ref cn, .ref tr])), (nw, .inr (10, [.ref nc, .ref ns, .int (-1), .int 0, .int 0, .ref nd, .ref nb, .int 0])), (nc, .inr (0, [.int 0, .int 0, .int 0, .int 0, .int 0, .int 0, .ref nc0, .ref nc1, .ref nc2, .ref nc3, .ref nc4, .ref nc5, .ref nc6, .ref nc7, .ref nc8, .ref nc9]))] sz) := by
  refine Met.ofW (cc := cX11_isSinging) (maxL := 2) (ret := (some .boolean)) (by decide) rfl ?_
  intro p e s m args below meth c s₁ B hml hv
  obtain ⟨rfl, hsz, hP, hK, hD0, hE⟩ := hv
  have hx := B.exec
  have hb := B.bytes
  have hr := B.returns
  have hts0 := atoms_spec (ws := ws_u yX11_isSinging cX11_isSinging 2 (some .boolean)) B.pre
  have hts : ∀ w ∈ gT, w.before _ s = true := fun w h => hts0 w (List.mem_cons_of_mem _ h)
  have hown : s.vm.findClass RX11 = some m.cls := findClass_of_methodNamed B.named
  have hlocks := B.notSynchronized
  subst hsz
  have hD := hD0.self (sz := s.heap.size)
  generalize hAe : va_A [(h0, .inr (11, [.ref tp, .ref cr, .ref rr, .ref ra, .int 0, .ref nw, .ref im, .ref ps, .ref po, .ref dy, .ref cn, .ref tr])), (nw, .inr (10, [.ref nc, .ref ns, .int (-1), .int 0, .int 0, .ref nd, .ref nb, .int 0])), (nc, .inr (0, [.int 0, .int 0, .int 0, .int 0, .int 0, .int 0, .ref nc0, .ref nc1, .ref nc2, .ref nc3, .ref nc4, .ref nc5, .ref nc6, .ref nc7, .ref nc8, .ref nc9]))] s.heap.size = A at hD ⊢
  have hA : ∀ q : Nat, s.heap.size ≤ q → A q := fun q h => by rw [← hAe]; exact Or.inr h
  have hS : va_S A s.heap s.heap [] := va_S.rf
  have hl := lv_entry ([.ref h0, .int a0]) (n := 2) (Nat.le_of_ble_eq_true rfl)
  rw [lg_entry_eq]
  generalize (lg_sl ([.ref h0, .int a0]) ++ List.replicate (2 - (lg_sl ([.ref h0, .int a0])).length) Slot.unset).toArray = ls at hl ⊢
  have hl : lv_has ls 2 [(0, .ref h0), (1, .int a0)] := hl
  have hP : va_P (dC, dI) vwCl [(h0, .inr (11, [.ref tp, .ref cr, .ref rr, .ref ra, .int 0, .ref nw, .ref im, .ref ps, .ref po, .ref dy, .ref cn, .ref tr])), (nw, .inr (10, [.ref nc, .ref ns, .int (-1), .int 0, .int 0, .ref nd, .ref nb, .int 0])), (nc, .inr (0, [.int 0, .int 0, .int 0, .int 0, .int 0, .int 0, .ref nc0, .ref nc1, .ref nc2, .ref nc3, .ref nc4, .ref nc5, .ref nc6, .ref nc7, .ref nc8, .ref nc9]))] s.heap := hP
  try clear hAe
  refine lv_aload_n hx hb dX11_isSinging_0 rfl (lv_at hl 0 rfl) ?_
  refine lv_iload_n hx hb dX11_isSinging_1 rfl (lv_at hl 1 rfl) ?_
  have hPc := hP.sub (ws' := [(h0, .inr (11, [.ref tp, .ref cr, .ref rr, .ref ra, .int 0, .ref nw, .ref im, .ref ps, .ref po, .ref dy, .ref cn, .ref tr])), (nw, .inr (10, [.ref nc, .ref ns, .int (-1), .int 0, .int 0, .ref nd, .ref nb, .int 0])), (nc, .inr (0, [.int 0, .int 0, .int 0, .int 0, .int 0, .int 0, .ref nc0, .ref nc1, .ref nc2, .ref nc3, .ref nc4, .ref nc5, .ref nc6, .ref nc7, .ref nc8, .ref nc9]))]) [0, 1, 2] rfl
  have hDc := hD.sub (ws' := [(h0, .inr (11, [.ref tp, .ref cr, .ref rr, .ref ra, .int 0, .ref nw, .ref im, .ref ps, .ref po, .ref dy, .ref cn, .ref tr])), (nw, .inr (10, [.ref nc, .ref ns, .int (-1), .int 0, .int 0, .ref nd, .ref nb, .int 0])), (nc, .inr (0, [.int 0, .int 0, .int 0, .int 0, .int 0, .int 0, .ref nc0, .ref nc1, .ref nc2, .ref nc3, .ref nc4, .ref nc5, .ref nc6, .ref nc7, .ref nc8, .ref nc9]))]) [0, 1, 2] (by decide) rfl
  have hKc := hK.sub (tys' := []) [] rfl
  have hFc := va_free (wc := [(h0, .inr (11, [.ref tp, .ref cr, .ref rr, .ref ra, .int 0, .ref nw, .ref im, .ref ps, .ref po, .ref dy, .ref cn, .ref tr])), (nw, .inr (10, [.ref nc, .ref ns, .int (-1), .int 0, .int 0, .ref nd, .ref nb, .int 0])), (nc, .inr (0, [.int 0, .int 0, .int 0, .int 0, .int 0, .int 0, .ref nc0, .ref nc1, .ref nc2, .ref nc3, .ref nc4, .ref nc5, .ref nc6, .ref nc7, .ref nc8, .ref nc9]))]) hD hS hA [0, 1, 2] rfl
  refine va_calli (va_runV (As := [.int a0]) (rest := []) ⟨hx, hb, hml, hown, hts⟩ (c_isBoy l dC dI h0 tp cr rr ra nw im ps po dy cn tr ns nd nb nc nc0 nc1 nc2 nc3 nc4 nc5 nc6 nc7 nc8 nc9 a0  s.heap.size) (cwV 1 hts (gUV tw_710 tw_712 ts_0_15 tw_1 tw_713) rfl rfl rfl (by decide +kernel) ⟨(Nat.le_of_ble_eq_true rfl), (Nat.le_of_ble_eq_true rfl)⟩) ⟨cPre.blind, va_recv hKc hPc (ci := 11) (q0 := 0) rfl rfl, cPre.use hPc hKc hDc hE⟩ rfl rfl hl.1 rfl (lv_room (Nat.le_of_ble_eq_true rfl)) dX11_isSinging_2 ⟨(Nat.le_of_ble_eq_true rfl), (Nat.le_of_ble_eq_true rfl)⟩) hS (fun q _ h => hFc q h) hFc (fun r_1 u t H1 locs ht hvm hw hB hz1 hk1 hS => ?_)
  obtain ⟨hP1, hK1, hD1⟩ := hB
  rw [ht] at hP1
  obtain ⟨hP, hD⟩ := va_join (wr := []) (w1 := [(h0, .inr (11, [.ref tp, .ref cr, .ref rr, .ref ra, .int 0, .ref nw, .ref im, .ref ps, .ref po, .ref dy, .ref cn, .ref tr])), (nw, .inr (10, [.ref nc, .ref ns, .int (-1), .int 0, .int 0, .ref nd, .ref nb, .int 0])), (nc, .inr (0, [.int 0, .int 0, .int 0, .int 0, .int 0, .int 0, .ref nc0, .ref nc1, .ref nc2, .ref nc3, .ref nc4, .ref nc5, .ref nc6, .ref nc7, .ref nc8, .ref nc9]))]) hP hD [0, 1, 2] [] rfl rfl (by decide) (by decide) hk1 hFc hP1 hD1
  generalize H1 = H at hP hS ⊢
  have hP : va_P (dC, dI) vwCl [(h0, .inr (11, [.ref tp, .ref cr, .ref rr, .ref ra, .int 0, .ref nw, .ref im, .ref ps, .ref po, .ref dy, .ref cn, .ref tr])), (nw, .inr (10, [.ref nc, .ref ns, .int (-1), .int 0, .int 0, .ref nd, .ref nb, .int 0])), (nc, .inr (0, [.int 0, .int 0, .int 0, .int 0, .int 0, .int 0, .ref nc0, .ref nc1, .ref nc2, .ref nc3, .ref nc4, .ref nc5, .ref nc6, .ref nc7, .ref nc8, .ref nc9]))] H := hP
  have hD : va_D A [(h0, .inr (11, [.ref tp, .ref cr, .ref rr, .ref ra, .int 0, .ref nw, .ref im, .ref ps, .ref po, .ref dy, .ref cn, .ref tr])), (nw, .inr (10, [.ref nc, .ref ns, .int (-1), .int 0, .int 0, .ref nd, .ref nb, .int 0])), (nc, .inr (0, [.int 0, .int 0, .int 0, .int 0, .int 0, .int 0, .ref nc0, .ref nc1, .ref nc2, .ref nc3, .ref nc4, .ref nc5, .ref nc6, .ref nc7, .ref nc8, .ref nc9]))] := hD
  obtain rfl : r_1 = 0 := hw
  refine lv_if_eq (tgt := 27) hx hb dX11_isSinging_5 (by decide) (fun c_2 => ?_) (fun c_2 => absurd (by decide) c_2)
  refine lv_iconst (v := 0) hx hb dX11_isSinging_27 (by decide) ?_
  have hP9 := hP.sub (ws' := [(h0, .inr (11, [.ref tp, .ref cr, .ref rr, .ref ra, .int 0, .ref nw, .ref im, .ref ps, .ref po, .ref dy, .ref cn, .ref tr])), (nw, .inr (10, [.ref nc, .ref ns, .int (-1), .int 0, .int 0, .ref nd, .ref nb, .int 0])), (nc, .inr (0, [.int 0, .int 0, .int 0, .int 0, .int 0, .int 0, .ref nc0, .ref nc1, .ref nc2, .ref nc3, .ref nc4, .ref nc5, .ref nc6, .ref nc7, .ref nc8, .ref nc9]))]) [0, 1, 2] rfl
  have hD9 := hD.sub (ws' := [(h0, .inr (11, [.ref tp, .ref cr, .ref rr, .ref ra, .int 0, .ref nw, .ref im, .ref ps, .ref po, .ref dy, .ref cn, .ref tr])), (nw, .inr (10, [.ref nc, .ref ns, .int (-1), .int 0, .int 0, .ref nd, .ref nb, .int 0])), (nc, .inr (0, [.int 0, .int 0, .int 0, .int 0, .int 0, .int 0, .ref nc0, .ref nc1, .ref nc2, .ref nc3, .ref nc4, .ref nc5, .ref nc6, .ref nc7, .ref nc8, .ref nc9]))]) [0, 1, 2] (by decide) rfl
  have hK9 := hK.sub (tys' := []) [] rfl
  refine W.widen (k := 0) (n := 0) (Nat.le_of_ble_eq_true rfl) (Nat.le_of_ble_eq_true rfl) ?_
  exact W.zret (v := 0) hx hb hr rfl (fun t ht hW => ⟨⟨0, (), rfl, rfl, ⟨by rw [ht]; exact hP9, va_K.moved hW.alike hK9, hD9⟩⟩, hS.F ht⟩) hS.2.2 dX11_isSinging_28
set_option maxHeartbeats 4000000 in
set_option maxRecDepth 100000 in
theorem c_isAlive (l : Launch) (dC : Nat → ClassId) (dI : Nat → Nat → Nat) (h0 : Nat) (tp : Nat) (cr : Nat) (rr : Nat) (ra : Nat) (nw : Nat) (im : Nat) (ps : Nat) (po : Nat) (dy : Nat) (cn : Nat) (tr : Nat) (ns : Nat) (nd : Nat) (nb : Nat) (nc : Nat) (nc0 : Nat) (nc1 : Nat) (nc2 : Nat) (nc3 : Nat) (nc4 : Nat) (nc5 : Nat) (nc6 : Nat) (nc7 : Nat) (nc8 : Nat) (nc9 : Nat) (a0 : Int32) (sz : Nat) : Met l yX11_isAlive (ws_u yX11_isAlive cX11_isAlive 2 (some .boolean)) ({ frames := 1, cells := 0, slots := 0, locals := 21 }) (va_Pc [.ref h0, .int a0] (cPre (dC, dI) [] [(h0, .inr (11, [.ref tp, .ref cr, .ref rr, .ref ra, .int 0, .ref nw, .ref im, .ref ps, .ref po, .ref dy, .ref cn, .ref tr])), (nw, .inr (10, [.ref nc, .ref ns, .int (-1), .int 0, .int 0, .ref nd, .ref nb, .int 0])), (nc, .inr (0, [.int 0, .int 0, .int 0, .int 0, .int 0, .int 0, .ref nc0, .ref nc1, .ref nc2, .ref nc3, .ref nc4, .ref nc5, .ref nc6, .ref nc7, .ref nc8, .ref nc9]))] sz)) (va_Qi (fun (r : Int32) (_ : Unit) => r = 0) (fun _ t => cPost (dC, dI) [] [(h0, .inr (11, [.ref tp, .ref cr, .ref rr, .ref ra, .int 0, .ref nw, .ref im, .ref ps, .ref po, .ref dy, .ref cn, .ref tr])), (nw, .inr (10, [.ref nc, .ref ns, .int (-1), .int 0, .int 0, .ref nd, .ref nb, .int 0])), (nc, .inr (0, [.int 0, .int 0, .int 0, .int 0, .int 0, .int 0, .ref nc0, .ref nc1, .ref nc2, .ref nc3, .ref nc4, .ref nc5, .ref nc6, .ref nc7, .ref nc8, .ref nc9]))] (va_A [(h0, .inr (11, [.ref tp, .ref cr, .ref rr, .ref ra, .int 0, .ref nw, .ref im, .ref ps, .ref po, .ref dy, .ref cn, .ref tr])), (nw, .inr (10, [.ref nc, .ref ns, .int (-1), .int 0, .int 0, .ref nd, .ref nb, .int 0])), (nc, .inr (0, [.int 0, .int 0, .int 0, .int 0, .int 0, .int 0, .ref nc0, .ref nc1, .ref nc2, .ref nc3, .ref nc4, .ref nc5, .ref nc6, .ref nc7, .ref nc8, .ref nc9]))] sz) t) (va_A [(h0, .inr (11, [.ref tp, .ref cr, .ref rr, .ref ra, .int 0, .ref nw, .ref im, .ref ps, .ref po, .ref dy, .ref cn, .ref tr])), (nw, .inr (10, [.ref nc, .ref ns, .int (-1), .int 0, .int 0, .ref nd, .ref nb, .int 0])), (nc, .inr (0, [.int 0, .int 0, .int 0, .int 0, .int 0, .int 0, .ref nc0, .ref nc1, .ref nc2, .ref nc3, .ref nc4, .ref nc5, .ref nc6, .ref nc7, .ref nc8, .ref nc9]))] sz)) 0 0 (va_A [(h0, .inr (11, [.ref tp, .ref cr, .ref rr, .ref ra, .int 0, .ref nw, .ref im, .ref ps, .ref po, .ref dy, .ref cn, .ref tr])), (nw, .inr (10, [.ref nc, .ref ns, .int (-1), .int 0, .int 0, .ref nd, .ref nb, .int 0])), (nc, .inr (0, [.int 0, .int 0, .int 0, .int 0, .int 0, .int 0, .ref nc0, .ref nc1, .ref nc2, .ref nc3, .ref nc4, .ref nc5, .ref nc6, .ref nc7, .ref nc8, .ref nc9]))] sz) := by
  refine Met.ofW (cc := cX11_isAlive) (maxL := 2) (ret := (some .boolean)) (by decide) rfl ?_
  intro p e s m args below meth c s₁ B hml hv
  obtain ⟨rfl, hsz, hP, hK, hD0, hE⟩ := hv
  have hx := B.exec
  have hb := B.bytes
  have hr := B.returns
  have hts0 := atoms_spec (ws := ws_u yX11_isAlive cX11_isAlive 2 (some .boolean)) B.pre
  have hts : ∀ w ∈ gT, w.before _ s = true := fun w h => hts0 w (List.mem_cons_of_mem _ h)
  have hown : s.vm.findClass RX11 = some m.cls := findClass_of_methodNamed B.named
  have hlocks := B.notSynchronized
  subst hsz
  have hD := hD0.self (sz := s.heap.size)
  generalize hAe : va_A [(h0, .inr (11, [.ref tp, .ref cr, .ref rr, .ref ra, .int 0, .ref nw, .ref im, .ref ps, .ref po, .ref dy, .ref cn, .ref tr])), (nw, .inr (10, [.ref nc, .ref ns, .int (-1), .int 0, .int 0, .ref nd, .ref nb, .int 0])), (nc, .inr (0, [.int 0, .int 0, .int 0, .int 0, .int 0, .int 0, .ref nc0, .ref nc1, .ref nc2, .ref nc3, .ref nc4, .ref nc5, .ref nc6, .ref nc7, .ref nc8, .ref nc9]))] s.heap.size = A at hD ⊢
  have hA : ∀ q : Nat, s.heap.size ≤ q → A q := fun q h => by rw [← hAe]; exact Or.inr h
  have hS : va_S A s.heap s.heap [] := va_S.rf
  have hl := lv_entry ([.ref h0, .int a0]) (n := 2) (Nat.le_of_ble_eq_true rfl)
  rw [lg_entry_eq]
  generalize (lg_sl ([.ref h0, .int a0]) ++ List.replicate (2 - (lg_sl ([.ref h0, .int a0])).length) Slot.unset).toArray = ls at hl ⊢
  have hl : lv_has ls 2 [(0, .ref h0), (1, .int a0)] := hl
  have hP : va_P (dC, dI) vwCl [(h0, .inr (11, [.ref tp, .ref cr, .ref rr, .ref ra, .int 0, .ref nw, .ref im, .ref ps, .ref po, .ref dy, .ref cn, .ref tr])), (nw, .inr (10, [.ref nc, .ref ns, .int (-1), .int 0, .int 0, .ref nd, .ref nb, .int 0])), (nc, .inr (0, [.int 0, .int 0, .int 0, .int 0, .int 0, .int 0, .ref nc0, .ref nc1, .ref nc2, .ref nc3, .ref nc4, .ref nc5, .ref nc6, .ref nc7, .ref nc8, .ref nc9]))] s.heap := hP
  try clear hAe
  refine lv_aload_n hx hb dX11_isAlive_0 rfl (lv_at hl 0 rfl) ?_
  refine lv_iload_n hx hb dX11_isAlive_1 rfl (lv_at hl 1 rfl) ?_
  have hPc := hP.sub (ws' := [(h0, .inr (11, [.ref tp, .ref cr, .ref rr, .ref ra, .int 0, .ref nw, .ref im, .ref ps, .ref po, .ref dy, .ref cn, .ref tr])), (nw, .inr (10, [.ref nc, .ref ns, .int (-1), .int 0, .int 0, .ref nd, .ref nb, .int 0])), (nc, .inr (0, [.int 0, .int 0, .int 0, .int 0, .int 0, .int 0, .ref nc0, .ref nc1, .ref nc2, .ref nc3, .ref nc4, .ref nc5, .ref nc6, .ref nc7, .ref nc8, .ref nc9]))]) [0, 1, 2] rfl
  have hDc := hD.sub (ws' := [(h0, .inr (11, [.ref tp, .ref cr, .ref rr, .ref ra, .int 0, .ref nw, .ref im, .ref ps, .ref po, .ref dy, .ref cn, .ref tr])), (nw, .inr (10, [.ref nc, .ref ns, .int (-1), .int 0, .int 0, .ref nd, .ref nb, .int 0])), (nc, .inr (0, [.int 0, .int 0, .int 0, .int 0, .int 0, .int 0, .ref nc0, .ref nc1, .ref nc2, .ref nc3, .ref nc4, .ref nc5, .ref nc6, .ref nc7, .ref nc8, .ref nc9]))]) [0, 1, 2] (by decide) rfl
  have hKc := hK.sub (tys' := []) [] rfl
  have hFc := va_free (wc := [(h0, .inr (11, [.ref tp, .ref cr, .ref rr, .ref ra, .int 0, .ref nw, .ref im, .ref ps, .ref po, .ref dy, .ref cn, .ref tr])), (nw, .inr (10, [.ref nc, .ref ns, .int (-1), .int 0, .int 0, .ref nd, .ref nb, .int 0])), (nc, .inr (0, [.int 0, .int 0, .int 0, .int 0, .int 0, .int 0, .ref nc0, .ref nc1, .ref nc2, .ref nc3, .ref nc4, .ref nc5, .ref nc6, .ref nc7, .ref nc8, .ref nc9]))]) hD hS hA [0, 1, 2] rfl
  refine va_calli (va_runV (As := [.int a0]) (rest := []) ⟨hx, hb, hml, hown, hts⟩ (c_isCanon l dC dI h0 tp cr rr ra nw im ps po dy cn tr ns nd nb nc nc0 nc1 nc2 nc3 nc4 nc5 nc6 nc7 nc8 nc9 a0  s.heap.size) (cwV 1 hts (gUV tw_722 tw_724 ts_1_0 tw_1 tw_725) rfl rfl rfl (by decide +kernel) ⟨(Nat.le_of_ble_eq_true rfl), (Nat.le_of_ble_eq_true rfl)⟩) ⟨cPre.blind, va_recv hKc hPc (ci := 11) (q0 := 0) rfl rfl, cPre.use hPc hKc hDc hE⟩ rfl rfl hl.1 rfl (lv_room (Nat.le_of_ble_eq_true rfl)) dX11_isAlive_2 ⟨(Nat.le_of_ble_eq_true rfl), (Nat.le_of_ble_eq_true rfl)⟩) hS (fun q _ h => hFc q h) hFc (fun r_1 u t H1 locs ht hvm hw hB hz1 hk1 hS => ?_)
  obtain ⟨hP1, hK1, hD1⟩ := hB
  rw [ht] at hP1
  obtain ⟨hP, hD⟩ := va_join (wr := []) (w1 := [(h0, .inr (11, [.ref tp, .ref cr, .ref rr, .ref ra, .int 0, .ref nw, .ref im, .ref ps, .ref po, .ref dy, .ref cn, .ref tr])), (nw, .inr (10, [.ref nc, .ref ns, .int (-1), .int 0, .int 0, .ref nd, .ref nb, .int 0])), (nc, .inr (0, [.int 0, .int 0, .int 0, .int 0, .int 0, .int 0, .ref nc0, .ref nc1, .ref nc2, .ref nc3, .ref nc4, .ref nc5, .ref nc6, .ref nc7, .ref nc8, .ref nc9]))]) hP hD [0, 1, 2] [] rfl rfl (by decide) (by decide) hk1 hFc hP1 hD1
  generalize H1 = H at hP hS ⊢
  have hP : va_P (dC, dI) vwCl [(h0, .inr (11, [.ref tp, .ref cr, .ref rr, .ref ra, .int 0, .ref nw, .ref im, .ref ps, .ref po, .ref dy, .ref cn, .ref tr])), (nw, .inr (10, [.ref nc, .ref ns, .int (-1), .int 0, .int 0, .ref nd, .ref nb, .int 0])), (nc, .inr (0, [.int 0, .int 0, .int 0, .int 0, .int 0, .int 0, .ref nc0, .ref nc1, .ref nc2, .ref nc3, .ref nc4, .ref nc5, .ref nc6, .ref nc7, .ref nc8, .ref nc9]))] H := hP
  have hD : va_D A [(h0, .inr (11, [.ref tp, .ref cr, .ref rr, .ref ra, .int 0, .ref nw, .ref im, .ref ps, .ref po, .ref dy, .ref cn, .ref tr])), (nw, .inr (10, [.ref nc, .ref ns, .int (-1), .int 0, .int 0, .ref nd, .ref nb, .int 0])), (nc, .inr (0, [.int 0, .int 0, .int 0, .int 0, .int 0, .int 0, .ref nc0, .ref nc1, .ref nc2, .ref nc3, .ref nc4, .ref nc5, .ref nc6, .ref nc7, .ref nc8, .ref nc9]))] := hD
  obtain rfl : r_1 = 0 := hw
  refine lv_if_eq (tgt := 29) hx hb dX11_isAlive_5 (by decide) (fun c_2 => ?_) (fun c_2 => absurd (by decide) c_2)
  refine lv_iconst (v := 0) hx hb dX11_isAlive_29 (by decide) ?_
  have hP9 := hP.sub (ws' := [(h0, .inr (11, [.ref tp, .ref cr, .ref rr, .ref ra, .int 0, .ref nw, .ref im, .ref ps, .ref po, .ref dy, .ref cn, .ref tr])), (nw, .inr (10, [.ref nc, .ref ns, .int (-1), .int 0, .int 0, .ref nd, .ref nb, .int 0])), (nc, .inr (0, [.int 0, .int 0, .int 0, .int 0, .int 0, .int 0, .ref nc0, .ref nc1, .ref nc2, .ref nc3, .ref nc4, .ref nc5, .ref nc6, .ref nc7, .ref nc8, .ref nc9]))]) [0, 1, 2] rfl
  have hD9 := hD.sub (ws' := [(h0, .inr (11, [.ref tp, .ref cr, .ref rr, .ref ra, .int 0, .ref nw, .ref im, .ref ps, .ref po, .ref dy, .ref cn, .ref tr])), (nw, .inr (10, [.ref nc, .ref ns, .int (-1), .int 0, .int 0, .ref nd, .ref nb, .int 0])), (nc, .inr (0, [.int 0, .int 0, .int 0, .int 0, .int 0, .int 0, .ref nc0, .ref nc1, .ref nc2, .ref nc3, .ref nc4, .ref nc5, .ref nc6, .ref nc7, .ref nc8, .ref nc9]))]) [0, 1, 2] (by decide) rfl
  have hK9 := hK.sub (tys' := []) [] rfl
  refine W.widen (k := 0) (n := 0) (Nat.le_of_ble_eq_true rfl) (Nat.le_of_ble_eq_true rfl) ?_
  exact W.zret (v := 0) hx hb hr rfl (fun t ht hW => ⟨⟨0, (), rfl, rfl, ⟨by rw [ht]; exact hP9, va_K.moved hW.alike hK9, hD9⟩⟩, hS.F ht⟩) hS.2.2 dX11_isAlive_30
set_option maxHeartbeats 4000000 in
set_option maxRecDepth 100000 in
theorem c_boy (l : Launch) (dC : Nat → ClassId) (dI : Nat → Nat → Nat) (h0 : Nat) (tp : Nat) (cr : Nat) (rr : Nat) (ra : Nat) (nw : Nat) (im : Nat) (ps : Nat) (po : Nat) (dy : Nat) (cn : Nat) (tr : Nat) (ns : Nat) (nd : Nat) (nb : Nat) (nc : Nat) (nc0 : Nat) (nc1 : Nat) (nc2 : Nat) (nc3 : Nat) (nc4 : Nat) (nc5 : Nat) (nc6 : Nat) (nc7 : Nat) (nc8 : Nat) (nc9 : Nat) (a0 : Int32) (a1 : Int32) (sz : Nat) : Met l yX11_boy (ws_u yX11_boy cX11_boy 3 (some .int)) ({ frames := 1, cells := 0, slots := 0, locals := 21 }) (va_Pc [.ref h0, .int a0, .int a1] (cPre (dC, dI) [] [(h0, .inr (11, [.ref tp, .ref cr, .ref rr, .ref ra, .int 0, .ref nw, .ref im, .ref ps, .ref po, .ref dy, .ref cn, .ref tr])), (nw, .inr (10, [.ref nc, .ref ns, .int (-1), .int 0, .int 0, .ref nd, .ref nb, .int 0])), (nc, .inr (0, [.int 0, .int 0, .int 0, .int 0, .int 0, .int 0, .ref nc0, .ref nc1, .ref nc2, .ref nc3, .ref nc4, .ref nc5, .ref nc6, .ref nc7, .ref nc8, .ref nc9]))] sz)) (va_Qi (fun (r : Int32) (_ : Unit) => r = (-1)) (fun _ _ => True) (va_A [(h0, .inr (11, [.ref tp, .ref cr, .ref rr, .ref ra, .int 0, .ref nw, .ref im, .ref ps, .ref po, .ref dy, .ref cn, .ref tr])), (nw, .inr (10, [.ref nc, .ref ns, .int (-1), .int 0, .int 0, .ref nd, .ref nb, .int 0])), (nc, .inr (0, [.int 0, .int 0, .int 0, .int 0, .int 0, .int 0, .ref nc0, .ref nc1, .ref nc2, .ref nc3, .ref nc4, .ref nc5, .ref nc6, .ref nc7, .ref nc8, .ref nc9]))] sz)) 0 0 (va_A [(h0, .inr (11, [.ref tp, .ref cr, .ref rr, .ref ra, .int 0, .ref nw, .ref im, .ref ps, .ref po, .ref dy, .ref cn, .ref tr])), (nw, .inr (10, [.ref nc, .ref ns, .int (-1), .int 0, .int 0, .ref nd, .ref nb, .int 0])), (nc, .inr (0, [.int 0, .int 0, .int 0, .int 0, .int 0, .int 0, .ref nc0, .ref nc1, .ref nc2, .ref nc3, .ref nc4, .ref nc5, .ref nc6, .ref nc7, .ref nc8, .ref nc9]))] sz) := by
  refine Met.ofW (cc := cX11_boy) (maxL := 3) (ret := (some .int)) (by decide) rfl ?_
  intro p e s m args below meth c s₁ B hml hv
  obtain ⟨rfl, hsz, hP, hK, hD0, hE⟩ := hv
  have hx := B.exec
  have hb := B.bytes
  have hr := B.returns
  have hts0 := atoms_spec (ws := ws_u yX11_boy cX11_boy 3 (some .int)) B.pre
  have hts : ∀ w ∈ gT, w.before _ s = true := fun w h => hts0 w (List.mem_cons_of_mem _ h)
  have hown : s.vm.findClass RX11 = some m.cls := findClass_of_methodNamed B.named
  have hlocks := B.notSynchronized
  subst hsz
  have hD := hD0.self (sz := s.heap.size)
  generalize hAe : va_A [(h0, .inr (11, [.ref tp, .ref cr, .ref rr, .ref ra, .int 0, .ref nw, .ref im, .ref ps, .ref po, .ref dy, .ref cn, .ref tr])), (nw, .inr (10, [.ref nc, .ref ns, .int (-1), .int 0, .int 0, .ref nd, .ref nb, .int 0])), (nc, .inr (0, [.int 0, .int 0, .int 0, .int 0, .int 0, .int 0, .ref nc0, .ref nc1, .ref nc2, .ref nc3, .ref nc4, .ref nc5, .ref nc6, .ref nc7, .ref nc8, .ref nc9]))] s.heap.size = A at hD ⊢
  have hA : ∀ q : Nat, s.heap.size ≤ q → A q := fun q h => by rw [← hAe]; exact Or.inr h
  have hS : va_S A s.heap s.heap [] := va_S.rf
  have hl := lv_entry ([.ref h0, .int a0, .int a1]) (n := 3) (Nat.le_of_ble_eq_true rfl)
  rw [lg_entry_eq]
  generalize (lg_sl ([.ref h0, .int a0, .int a1]) ++ List.replicate (3 - (lg_sl ([.ref h0, .int a0, .int a1])).length) Slot.unset).toArray = ls at hl ⊢
  have hl : lv_has ls 3 [(0, .ref h0), (1, .int a0), (2, .int a1)] := hl
  have hP : va_P (dC, dI) vwCl [(h0, .inr (11, [.ref tp, .ref cr, .ref rr, .ref ra, .int 0, .ref nw, .ref im, .ref ps, .ref po, .ref dy, .ref cn, .ref tr])), (nw, .inr (10, [.ref nc, .ref ns, .int (-1), .int 0, .int 0, .ref nd, .ref nb, .int 0])), (nc, .inr (0, [.int 0, .int 0, .int 0, .int 0, .int 0, .int 0, .ref nc0, .ref nc1, .ref nc2, .ref nc3, .ref nc4, .ref nc5, .ref nc6, .ref nc7, .ref nc8, .ref nc9]))] s.heap := hP
  try clear hAe
  refine lv_aload_n hx hb dX11_boy_0 rfl (lv_at hl 0 rfl) ?_
  refine lv_iload_n hx hb dX11_boy_1 rfl (lv_at hl 1 rfl) ?_
  have hPc := hP.sub (ws' := [(h0, .inr (11, [.ref tp, .ref cr, .ref rr, .ref ra, .int 0, .ref nw, .ref im, .ref ps, .ref po, .ref dy, .ref cn, .ref tr])), (nw, .inr (10, [.ref nc, .ref ns, .int (-1), .int 0, .int 0, .ref nd, .ref nb, .int 0])), (nc, .inr (0, [.int 0, .int 0, .int 0, .int 0, .int 0, .int 0, .ref nc0, .ref nc1, .ref nc2, .ref nc3, .ref nc4, .ref nc5, .ref nc6, .ref nc7, .ref nc8, .ref nc9]))]) [0, 1, 2] rfl
  have hDc := hD.sub (ws' := [(h0, .inr (11, [.ref tp, .ref cr, .ref rr, .ref ra, .int 0, .ref nw, .ref im, .ref ps, .ref po, .ref dy, .ref cn, .ref tr])), (nw, .inr (10, [.ref nc, .ref ns, .int (-1), .int 0, .int 0, .ref nd, .ref nb, .int 0])), (nc, .inr (0, [.int 0, .int 0, .int 0, .int 0, .int 0, .int 0, .ref nc0, .ref nc1, .ref nc2, .ref nc3, .ref nc4, .ref nc5, .ref nc6, .ref nc7, .ref nc8, .ref nc9]))]) [0, 1, 2] (by decide) rfl
  have hKc := hK.sub (tys' := []) [] rfl
  have hFc := va_free (wc := [(h0, .inr (11, [.ref tp, .ref cr, .ref rr, .ref ra, .int 0, .ref nw, .ref im, .ref ps, .ref po, .ref dy, .ref cn, .ref tr])), (nw, .inr (10, [.ref nc, .ref ns, .int (-1), .int 0, .int 0, .ref nd, .ref nb, .int 0])), (nc, .inr (0, [.int 0, .int 0, .int 0, .int 0, .int 0, .int 0, .ref nc0, .ref nc1, .ref nc2, .ref nc3, .ref nc4, .ref nc5, .ref nc6, .ref nc7, .ref nc8, .ref nc9]))]) hD hS hA [0, 1, 2] rfl
  refine va_calli (va_runV (As := [.int a0]) (rest := []) ⟨hx, hb, hml, hown, hts⟩ (c_isBoy l dC dI h0 tp cr rr ra nw im ps po dy cn tr ns nd nb nc nc0 nc1 nc2 nc3 nc4 nc5 nc6 nc7 nc8 nc9 a0  s.heap.size) (cwV 1 hts (gUV tw_710 tw_712 ts_0_15 tw_1 tw_713) rfl rfl rfl (by decide +kernel) ⟨(Nat.le_of_ble_eq_true rfl), (Nat.le_of_ble_eq_true rfl)⟩) ⟨cPre.blind, va_recv hKc hPc (ci := 11) (q0 := 0) rfl rfl, cPre.use hPc hKc hDc hE⟩ rfl rfl hl.1 rfl (lv_room (Nat.le_of_ble_eq_true rfl)) dX11_boy_2 ⟨(Nat.le_of_ble_eq_true rfl), (Nat.le_of_ble_eq_true rfl)⟩) hS (fun q _ h => hFc q h) hFc (fun r_1 u t H1 locs ht hvm hw hB hz1 hk1 hS => ?_)
  obtain ⟨hP1, hK1, hD1⟩ := hB
  rw [ht] at hP1
  obtain ⟨hP, hD⟩ := va_join (wr := []) (w1 := [(h0, .inr (11, [.ref tp, .ref cr, .ref rr, .ref ra, .int 0, .ref nw, .ref im, .ref ps, .ref po, .ref dy, .ref cn, .ref tr])), (nw, .inr (10, [.ref nc, .ref ns, .int (-1), .int 0, .int 0, .ref nd, .ref nb, .int 0])), (nc, .inr (0, [.int 0, .int 0, .int 0, .int 0, .int 0, .int 0, .ref nc0, .ref nc1, .ref nc2, .ref nc3, .ref nc4, .ref nc5, .ref nc6, .ref nc7, .ref nc8, .ref nc9]))]) hP hD [0, 1, 2] [] rfl rfl (by decide) (by decide) hk1 hFc hP1 hD1
  generalize H1 = H at hP hS ⊢
  have hP : va_P (dC, dI) vwCl [(h0, .inr (11, [.ref tp, .ref cr, .ref rr, .ref ra, .int 0, .ref nw, .ref im, .ref ps, .ref po, .ref dy, .ref cn, .ref tr])), (nw, .inr (10, [.ref nc, .ref ns, .int (-1), .int 0, .int 0, .ref nd, .ref nb, .int 0])), (nc, .inr (0, [.int 0, .int 0, .int 0, .int 0, .int 0, .int 0, .ref nc0, .ref nc1, .ref nc2, .ref nc3, .ref nc4, .ref nc5, .ref nc6, .ref nc7, .ref nc8, .ref nc9]))] H := hP
  have hD : va_D A [(h0, .inr (11, [.ref tp, .ref cr, .ref rr, .ref ra, .int 0, .ref nw, .ref im, .ref ps, .ref po, .ref dy, .ref cn, .ref tr])), (nw, .inr (10, [.ref nc, .ref ns, .int (-1), .int 0, .int 0, .ref nd, .ref nb, .int 0])), (nc, .inr (0, [.int 0, .int 0, .int 0, .int 0, .int 0, .int 0, .ref nc0, .ref nc1, .ref nc2, .ref nc3, .ref nc4, .ref nc5, .ref nc6, .ref nc7, .ref nc8, .ref nc9]))] := hD
  obtain rfl : r_1 = 0 := hw
  refine lv_if_ne (tgt := 10) hx hb dX11_boy_5 (by decide) (fun c_2 => absurd (by decide) c_2) (fun c_2 => ?_)
  refine lv_iconst (v := (-1)) hx hb dX11_boy_8 (by decide) ?_
  refine W.widen (k := 0) (n := 0) (Nat.le_of_ble_eq_true rfl) (Nat.le_of_ble_eq_true rfl) ?_
  exact W.iret (v := (-1)) hx hb hr (fun t ht hW => ⟨⟨(-1), (), rfl, rfl, trivial⟩, hS.F ht⟩) hS.2.2 dX11_boy_9
set_option maxHeartbeats 4000000 in
set_option maxRecDepth 100000 in
theorem c_likes (l : Launch) (dC : Nat → ClassId) (dI : Nat → Nat → Nat) (h0 : Nat) (tp : Nat) (cr : Nat) (rr : Nat) (ra : Nat) (nw : Nat) (im : Nat) (ps : Nat) (po : Nat) (dy : Nat) (cn : Nat) (tr : Nat) (ns : Nat) (nd : Nat) (nb : Nat) (nc : Nat) (nc0 : Nat) (nc1 : Nat) (nc2 : Nat) (nc3 : Nat) (nc4 : Nat) (nc5 : Nat) (nc6 : Nat) (nc7 : Nat) (nc8 : Nat) (nc9 : Nat) (a0 : Int32) (a1 : Int32) (sz : Nat) : Met l yX11_likes (ws_u yX11_likes cX11_likes 3 (some .int)) ({ frames := 1, cells := 0, slots := 0, locals := 21 }) (va_Pc [.ref h0, .int a0, .int a1] (cPre (dC, dI) [] [(h0, .inr (11, [.ref tp, .ref cr, .ref rr, .ref ra, .int 0, .ref nw, .ref im, .ref ps, .ref po, .ref dy, .ref cn, .ref tr])), (nw, .inr (10, [.ref nc, .ref ns, .int (-1), .int 0, .int 0, .ref nd, .ref nb, .int 0])), (nc, .inr (0, [.int 0, .int 0, .int 0, .int 0, .int 0, .int 0, .ref nc0, .ref nc1, .ref nc2, .ref nc3, .ref nc4, .ref nc5, .ref nc6, .ref nc7, .ref nc8, .ref nc9]))] sz)) (va_Qi (fun (r : Int32) (_ : Unit) => r = (-1)) (fun _ _ => True) (va_A [(h0, .inr (11, [.ref tp, .ref cr, .ref rr, .ref ra, .int 0, .ref nw, .ref im, .ref ps, .ref po, .ref dy, .ref cn, .ref tr])), (nw, .inr (10, [.ref nc, .ref ns, .int (-1), .int 0, .int 0, .ref nd, .ref nb, .int 0])), (nc, .inr (0, [.int 0, .int 0, .int 0, .int 0, .int 0, .int 0, .ref nc0, .ref nc1, .ref nc2, .ref nc3, .ref nc4, .ref nc5, .ref nc6, .ref nc7, .ref nc8, .ref nc9]))] sz)) 0 0 (va_A [(h0, .inr (11, [.ref tp, .ref cr, .ref rr, .ref ra, .int 0, .ref nw, .ref im, .ref ps, .ref po, .ref dy, .ref cn, .ref tr])), (nw, .inr (10, [.ref nc, .ref ns, .int (-1), .int 0, .int 0, .ref nd, .ref nb, .int 0])), (nc, .inr (0, [.int 0, .int 0, .int 0, .int 0, .int 0, .int 0, .ref nc0, .ref nc1, .ref nc2, .ref nc3, .ref nc4, .ref nc5, .ref nc6, .ref nc7, .ref nc8, .ref nc9]))] sz) := by
  refine Met.ofW (cc := cX11_likes) (maxL := 3) (ret := (some .int)) (by decide) rfl ?_
  intro p e s m args below meth c s₁ B hml hv
  obtain ⟨rfl, hsz, hP, hK, hD0, hE⟩ := hv
  have hx := B.exec
  have hb := B.bytes
  have hr := B.returns
  have hts0 := atoms_spec (ws := ws_u yX11_likes cX11_likes 3 (some .int)) B.pre
  have hts : ∀ w ∈ gT, w.before _ s = true := fun w h => hts0 w (List.mem_cons_of_mem _ h)
  have hown : s.vm.findClass RX11 = some m.cls := findClass_of_methodNamed B.named
  have hlocks := B.notSynchronized
  subst hsz
  have hD := hD0.self (sz := s.heap.size)
  generalize hAe : va_A [(h0, .inr (11, [.ref tp, .ref cr, .ref rr, .ref ra, .int 0, .ref nw, .ref im, .ref ps, .ref po, .ref dy, .ref cn, .ref tr])), (nw, .inr (10, [.ref nc, .ref ns, .int (-1), .int 0, .int 0, .ref nd, .ref nb, .int 0])), (nc, .inr (0, [.int 0, .int 0, .int 0, .int 0, .int 0, .int 0, .ref nc0, .ref nc1, .ref nc2, .ref nc3, .ref nc4, .ref nc5, .ref nc6, .ref nc7, .ref nc8, .ref nc9]))] s.heap.size = A at hD ⊢
  have hA : ∀ q : Nat, s.heap.size ≤ q → A q := fun q h => by rw [← hAe]; exact Or.inr h
  have hS : va_S A s.heap s.heap [] := va_S.rf
  have hl := lv_entry ([.ref h0, .int a0, .int a1]) (n := 3) (Nat.le_of_ble_eq_true rfl)
  rw [lg_entry_eq]
  generalize (lg_sl ([.ref h0, .int a0, .int a1]) ++ List.replicate (3 - (lg_sl ([.ref h0, .int a0, .int a1])).length) Slot.unset).toArray = ls at hl ⊢
  have hl : lv_has ls 3 [(0, .ref h0), (1, .int a0), (2, .int a1)] := hl
  have hP : va_P (dC, dI) vwCl [(h0, .inr (11, [.ref tp, .ref cr, .ref rr, .ref ra, .int 0, .ref nw, .ref im, .ref ps, .ref po, .ref dy, .ref cn, .ref tr])), (nw, .inr (10, [.ref nc, .ref ns, .int (-1), .int 0, .int 0, .ref nd, .ref nb, .int 0])), (nc, .inr (0, [.int 0, .int 0, .int 0, .int 0, .int 0, .int 0, .ref nc0, .ref nc1, .ref nc2, .ref nc3, .ref nc4, .ref nc5, .ref nc6, .ref nc7, .ref nc8, .ref nc9]))] s.heap := hP
  try clear hAe
  refine lv_aload_n hx hb dX11_likes_0 rfl (lv_at hl 0 rfl) ?_
  refine lv_iload_n hx hb dX11_likes_1 rfl (lv_at hl 1 rfl) ?_
  have hPc := hP.sub (ws' := [(h0, .inr (11, [.ref tp, .ref cr, .ref rr, .ref ra, .int 0, .ref nw, .ref im, .ref ps, .ref po, .ref dy, .ref cn, .ref tr])), (nw, .inr (10, [.ref nc, .ref ns, .int (-1), .int 0, .int 0, .ref nd, .ref nb, .int 0])), (nc, .inr (0, [.int 0, .int 0, .int 0, .int 0, .int 0, .int 0, .ref nc0, .ref nc1, .ref nc2, .ref nc3, .ref nc4, .ref nc5, .ref nc6, .ref nc7, .ref nc8, .ref nc9]))]) [0, 1, 2] rfl
  have hDc := hD.sub (ws' := [(h0, .inr (11, [.ref tp, .ref cr, .ref rr, .ref ra, .int 0, .ref nw, .ref im, .ref ps, .ref po, .ref dy, .ref cn, .ref tr])), (nw, .inr (10, [.ref nc, .ref ns, .int (-1), .int 0, .int 0, .ref nd, .ref nb, .int 0])), (nc, .inr (0, [.int 0, .int 0, .int 0, .int 0, .int 0, .int 0, .ref nc0, .ref nc1, .ref nc2, .ref nc3, .ref nc4, .ref nc5, .ref nc6, .ref nc7, .ref nc8, .ref nc9]))]) [0, 1, 2] (by decide) rfl
  have hKc := hK.sub (tys' := []) [] rfl
  have hFc := va_free (wc := [(h0, .inr (11, [.ref tp, .ref cr, .ref rr, .ref ra, .int 0, .ref nw, .ref im, .ref ps, .ref po, .ref dy, .ref cn, .ref tr])), (nw, .inr (10, [.ref nc, .ref ns, .int (-1), .int 0, .int 0, .ref nd, .ref nb, .int 0])), (nc, .inr (0, [.int 0, .int 0, .int 0, .int 0, .int 0, .int 0, .ref nc0, .ref nc1, .ref nc2, .ref nc3, .ref nc4, .ref nc5, .ref nc6, .ref nc7, .ref nc8, .ref nc9]))]) hD hS hA [0, 1, 2] rfl
  refine va_calli (va_runV (As := [.int a0]) (rest := []) ⟨hx, hb, hml, hown, hts⟩ (c_isBoy l dC dI h0 tp cr rr ra nw im ps po dy cn tr ns nd nb nc nc0 nc1 nc2 nc3 nc4 nc5 nc6 nc7 nc8 nc9 a0  s.heap.size) (cwV 1 hts (gUV tw_710 tw_712 ts_0_15 tw_1 tw_713) rfl rfl rfl (by decide +kernel) ⟨(Nat.le_of_ble_eq_true rfl), (Nat.le_of_ble_eq_true rfl)⟩) ⟨cPre.blind, va_recv hKc hPc (ci := 11) (q0 := 0) rfl rfl, cPre.use hPc hKc hDc hE⟩ rfl rfl hl.1 rfl (lv_room (Nat.le_of_ble_eq_true rfl)) dX11_likes_2 ⟨(Nat.le_of_ble_eq_true rfl), (Nat.le_of_ble_eq_true rfl)⟩) hS (fun q _ h => hFc q h) hFc (fun r_1 u t H1 locs ht hvm hw hB hz1 hk1 hS => ?_)
  obtain ⟨hP1, hK1, hD1⟩ := hB
  rw [ht] at hP1
  obtain ⟨hP, hD⟩ := va_join (wr := []) (w1 := [(h0, .inr (11, [.ref tp, .ref cr, .ref rr, .ref ra, .int 0, .ref nw, .ref im, .ref ps, .ref po, .ref dy, .ref cn, .ref tr])), (nw, .inr (10, [.ref nc, .ref ns, .int (-1), .int 0, .int 0, .ref nd, .ref nb, .int 0])), (nc, .inr (0, [.int 0, .int 0, .int 0, .int 0, .int 0, .int 0, .ref nc0, .ref nc1, .ref nc2, .ref nc3, .ref nc4, .ref nc5, .ref nc6, .ref nc7, .ref nc8, .ref nc9]))]) hP hD [0, 1, 2] [] rfl rfl (by decide) (by decide) hk1 hFc hP1 hD1
  generalize H1 = H at hP hS ⊢
  have hP : va_P (dC, dI) vwCl [(h0, .inr (11, [.ref tp, .ref cr, .ref rr, .ref ra, .int 0, .ref nw, .ref im, .ref ps, .ref po, .ref dy, .ref cn, .ref tr])), (nw, .inr (10, [.ref nc, .ref ns, .int (-1), .int 0, .int 0, .ref nd, .ref nb, .int 0])), (nc, .inr (0, [.int 0, .int 0, .int 0, .int 0, .int 0, .int 0, .ref nc0, .ref nc1, .ref nc2, .ref nc3, .ref nc4, .ref nc5, .ref nc6, .ref nc7, .ref nc8, .ref nc9]))] H := hP
  have hD : va_D A [(h0, .inr (11, [.ref tp, .ref cr, .ref rr, .ref ra, .int 0, .ref nw, .ref im, .ref ps, .ref po, .ref dy, .ref cn, .ref tr])), (nw, .inr (10, [.ref nc, .ref ns, .int (-1), .int 0, .int 0, .ref nd, .ref nb, .int 0])), (nc, .inr (0, [.int 0, .int 0, .int 0, .int 0, .int 0, .int 0, .ref nc0, .ref nc1, .ref nc2, .ref nc3, .ref nc4, .ref nc5, .ref nc6, .ref nc7, .ref nc8, .ref nc9]))] := hD
  obtain rfl : r_1 = 0 := hw
  refine lv_if_eq (tgt := 16) hx hb dX11_likes_5 (by decide) (fun c_2 => ?_) (fun c_2 => absurd (by decide) c_2)
  refine lv_iconst (v := (-1)) hx hb dX11_likes_16 (by decide) ?_
  refine W.widen (k := 0) (n := 0) (Nat.le_of_ble_eq_true rfl) (Nat.le_of_ble_eq_true rfl) ?_
  exact W.iret (v := (-1)) hx hb hr (fun t ht hW => ⟨⟨(-1), (), rfl, rfl, trivial⟩, hS.F ht⟩) hS.2.2 dX11_likes_17
set_option maxHeartbeats 4000000 in
set_option maxRecDepth 100000 in
theorem c_canon (l : Launch) (dC : Nat → ClassId) (dI : Nat → Nat → Nat) (h0 : Nat) (tp : Nat) (cr : Nat) (rr : Nat) (ra : Nat) (nw : Nat) (im : Nat) (ps : Nat) (po : Nat) (dy : Nat) (cn : Nat) (tr : Nat) (ns : Nat) (nd : Nat) (nb : Nat) (nc : Nat) (nc0 : Nat) (nc1 : Nat) (nc2 : Nat) (nc3 : Nat) (nc4 : Nat) (nc5 : Nat) (nc6 : Nat) (nc7 : Nat) (nc8 : Nat) (nc9 : Nat) (a0 : Int32) (a1 : Int32) (sz : Nat) : Met l yX11_canon (ws_u yX11_canon cX11_canon 3 (some .int)) ({ frames := 1, cells := 0, slots := 0, locals := 21 }) (va_Pc [.ref h0, .int a0, .int a1] (cPre (dC, dI) [] [(h0, .inr (11, [.ref tp, .ref cr, .ref rr, .ref ra, .int 0, .ref nw, .ref im, .ref ps, .ref po, .ref dy, .ref cn, .ref tr])), (nw, .inr (10, [.ref nc, .ref ns, .int (-1), .int 0, .int 0, .ref nd, .ref nb, .int 0])), (nc, .inr (0, [.int 0, .int 0, .int 0, .int 0, .int 0, .int 0, .ref nc0, .ref nc1, .ref nc2, .ref nc3, .ref nc4, .ref nc5, .ref nc6, .ref nc7, .ref nc8, .ref nc9]))] sz)) (va_Qi (fun (r : Int32) (_ : Unit) => r = (-2)) (fun _ _ => True) (va_A [(h0, .inr (11, [.ref tp, .ref cr, .ref rr, .ref ra, .int 0, .ref nw, .ref im, .ref ps, .ref po, .ref dy, .ref cn, .ref tr])), (nw, .inr (10, [.ref nc, .ref ns, .int (-1), .int 0, .int 0, .ref nd, .ref nb, .int 0])), (nc, .inr (0, [.int 0, .int 0, .int 0, .int 0, .int 0, .int 0, .ref nc0, .ref nc1, .ref nc2, .ref nc3, .ref nc4, .ref nc5, .ref nc6, .ref nc7, .ref nc8, .ref nc9]))] sz)) 0 0 (va_A [(h0, .inr (11, [.ref tp, .ref cr, .ref rr, .ref ra, .int 0, .ref nw, .ref im, .ref ps, .ref po, .ref dy, .ref cn, .ref tr])), (nw, .inr (10, [.ref nc, .ref ns, .int (-1), .int 0, .int 0, .ref nd, .ref nb, .int 0])), (nc, .inr (0, [.int 0, .int 0, .int 0, .int 0, .int 0, .int 0, .ref nc0, .ref nc1, .ref nc2, .ref nc3, .ref nc4, .ref nc5, .ref nc6, .ref nc7, .ref nc8, .ref nc9]))] sz) := by
  refine Met.ofW (cc := cX11_canon) (maxL := 3) (ret := (some .int)) (by decide) rfl ?_
  intro p e s m args below meth c s₁ B hml hv
  obtain ⟨rfl, hsz, hP, hK, hD0, hE⟩ := hv
  have hx := B.exec
  have hb := B.bytes
  have hr := B.returns
  have hts0 := atoms_spec (ws := ws_u yX11_canon cX11_canon 3 (some .int)) B.pre
  have hts : ∀ w ∈ gT, w.before _ s = true := fun w h => hts0 w (List.mem_cons_of_mem _ h)
  have hown : s.vm.findClass RX11 = some m.cls := findClass_of_methodNamed B.named
  have hlocks := B.notSynchronized
  subst hsz
  have hD := hD0.self (sz := s.heap.size)
  generalize hAe : va_A [(h0, .inr (11, [.ref tp, .ref cr, .ref rr, .ref ra, .int 0, .ref nw, .ref im, .ref ps, .ref po, .ref dy, .ref cn, .ref tr])), (nw, .inr (10, [.ref nc, .ref ns, .int (-1), .int 0, .int 0, .ref nd, .ref nb, .int 0])), (nc, .inr (0, [.int 0, .int 0, .int 0, .int 0, .int 0, .int 0, .ref nc0, .ref nc1, .ref nc2, .ref nc3, .ref nc4, .ref nc5, .ref nc6, .ref nc7, .ref nc8, .ref nc9]))] s.heap.size = A at hD ⊢
  have hA : ∀ q : Nat, s.heap.size ≤ q → A q := fun q h => by rw [← hAe]; exact Or.inr h
  have hS : va_S A s.heap s.heap [] := va_S.rf
  have hl := lv_entry ([.ref h0, .int a0, .int a1]) (n := 3) (Nat.le_of_ble_eq_true rfl)
  rw [lg_entry_eq]
  generalize (lg_sl ([.ref h0, .int a0, .int a1]) ++ List.replicate (3 - (lg_sl ([.ref h0, .int a0, .int a1])).length) Slot.unset).toArray = ls at hl ⊢
  have hl : lv_has ls 3 [(0, .ref h0), (1, .int a0), (2, .int a1)] := hl
  have hP : va_P (dC, dI) vwCl [(h0, .inr (11, [.ref tp, .ref cr, .ref rr, .ref ra, .int 0, .ref nw, .ref im, .ref ps, .ref po, .ref dy, .ref cn, .ref tr])), (nw, .inr (10, [.ref nc, .ref ns, .int (-1), .int 0, .int 0, .ref nd, .ref nb, .int 0])), (nc, .inr (0, [.int 0, .int 0, .int 0, .int 0, .int 0, .int 0, .ref nc0, .ref nc1, .ref nc2, .ref nc3, .ref nc4, .ref nc5, .ref nc6, .ref nc7, .ref nc8, .ref nc9]))] s.heap := hP
  try clear hAe
  refine lv_aload_n hx hb dX11_canon_0 rfl (lv_at hl 0 rfl) ?_
  refine lv_iload_n hx hb dX11_canon_1 rfl (lv_at hl 1 rfl) ?_
  have hPc := hP.sub (ws' := [(h0, .inr (11, [.ref tp, .ref cr, .ref rr, .ref ra, .int 0, .ref nw, .ref im, .ref ps, .ref po, .ref dy, .ref cn, .ref tr])), (nw, .inr (10, [.ref nc, .ref ns, .int (-1), .int 0, .int 0, .ref nd, .ref nb, .int 0])), (nc, .inr (0, [.int 0, .int 0, .int 0, .int 0, .int 0, .int 0, .ref nc0, .ref nc1, .ref nc2, .ref nc3, .ref nc4, .ref nc5, .ref nc6, .ref nc7, .ref nc8, .ref nc9]))]) [0, 1, 2] rfl
  have hDc := hD.sub (ws' := [(h0, .inr (11, [.ref tp, .ref cr, .ref rr, .ref ra, .int 0, .ref nw, .ref im, .ref ps, .ref po, .ref dy, .ref cn, .ref tr])), (nw, .inr (10, [.ref nc, .ref ns, .int (-1), .int 0, .int 0, .ref nd, .ref nb, .int 0])), (nc, .inr (0, [.int 0, .int 0, .int 0, .int 0, .int 0, .int 0, .ref nc0, .ref nc1, .ref nc2, .ref nc3, .ref nc4, .ref nc5, .ref nc6, .ref nc7, .ref nc8, .ref nc9]))]) [0, 1, 2] (by decide) rfl
  have hKc := hK.sub (tys' := []) [] rfl
  have hFc := va_free (wc := [(h0, .inr (11, [.ref tp, .ref cr, .ref rr, .ref ra, .int 0, .ref nw, .ref im, .ref ps, .ref po, .ref dy, .ref cn, .ref tr])), (nw, .inr (10, [.ref nc, .ref ns, .int (-1), .int 0, .int 0, .ref nd, .ref nb, .int 0])), (nc, .inr (0, [.int 0, .int 0, .int 0, .int 0, .int 0, .int 0, .ref nc0, .ref nc1, .ref nc2, .ref nc3, .ref nc4, .ref nc5, .ref nc6, .ref nc7, .ref nc8, .ref nc9]))]) hD hS hA [0, 1, 2] rfl
  refine va_calli (va_runV (As := [.int a0]) (rest := []) ⟨hx, hb, hml, hown, hts⟩ (c_isCanon l dC dI h0 tp cr rr ra nw im ps po dy cn tr ns nd nb nc nc0 nc1 nc2 nc3 nc4 nc5 nc6 nc7 nc8 nc9 a0  s.heap.size) (cwV 1 hts (gUV tw_722 tw_724 ts_1_0 tw_1 tw_725) rfl rfl rfl (by decide +kernel) ⟨(Nat.le_of_ble_eq_true rfl), (Nat.le_of_ble_eq_true rfl)⟩) ⟨cPre.blind, va_recv hKc hPc (ci := 11) (q0 := 0) rfl rfl, cPre.use hPc hKc hDc hE⟩ rfl rfl hl.1 rfl (lv_room (Nat.le_of_ble_eq_true rfl)) dX11_canon_2 ⟨(Nat.le_of_ble_eq_true rfl), (Nat.le_of_ble_eq_true rfl)⟩) hS (fun q _ h => hFc q h) hFc (fun r_1 u t H1 locs ht hvm hw hB hz1 hk1 hS => ?_)
  obtain ⟨hP1, hK1, hD1⟩ := hB
  rw [ht] at hP1
  obtain ⟨hP, hD⟩ := va_join (wr := []) (w1 := [(h0, .inr (11, [.ref tp, .ref cr, .ref rr, .ref ra, .int 0, .ref nw, .ref im, .ref ps, .ref po, .ref dy, .ref cn, .ref tr])), (nw, .inr (10, [.ref nc, .ref ns, .int (-1), .int 0, .int 0, .ref nd, .ref nb, .int 0])), (nc, .inr (0, [.int 0, .int 0, .int 0, .int 0, .int 0, .int 0, .ref nc0, .ref nc1, .ref nc2, .ref nc3, .ref nc4, .ref nc5, .ref nc6, .ref nc7, .ref nc8, .ref nc9]))]) hP hD [0, 1, 2] [] rfl rfl (by decide) (by decide) hk1 hFc hP1 hD1
  generalize H1 = H at hP hS ⊢
  have hP : va_P (dC, dI) vwCl [(h0, .inr (11, [.ref tp, .ref cr, .ref rr, .ref ra, .int 0, .ref nw, .ref im, .ref ps, .ref po, .ref dy, .ref cn, .ref tr])), (nw, .inr (10, [.ref nc, .ref ns, .int (-1), .int 0, .int 0, .ref nd, .ref nb, .int 0])), (nc, .inr (0, [.int 0, .int 0, .int 0, .int 0, .int 0, .int 0, .ref nc0, .ref nc1, .ref nc2, .ref nc3, .ref nc4, .ref nc5, .ref nc6, .ref nc7, .ref nc8, .ref nc9]))] H := hP
  have hD : va_D A [(h0, .inr (11, [.ref tp, .ref cr, .ref rr, .ref ra, .int 0, .ref nw, .ref im, .ref ps, .ref po, .ref dy, .ref cn, .ref tr])), (nw, .inr (10, [.ref nc, .ref ns, .int (-1), .int 0, .int 0, .ref nd, .ref nb, .int 0])), (nc, .inr (0, [.int 0, .int 0, .int 0, .int 0, .int 0, .int 0, .ref nc0, .ref nc1, .ref nc2, .ref nc3, .ref nc4, .ref nc5, .ref nc6, .ref nc7, .ref nc8, .ref nc9]))] := hD
  obtain rfl : r_1 = 0 := hw
  refine lv_if_ne (tgt := 11) hx hb dX11_canon_5 (by decide) (fun c_2 => absurd (by decide) c_2) (fun c_2 => ?_)
  refine lv_bipush (v := (-2)) hx hb dX11_canon_8 (by decide) ?_
  refine W.widen (k := 0) (n := 0) (Nat.le_of_ble_eq_true rfl) (Nat.le_of_ble_eq_true rfl) ?_
  exact W.iret (v := (-2)) hx hb hr (fun t ht hW => ⟨⟨(-2), (), rfl, rfl, trivial⟩, hS.F ht⟩) hS.2.2 dX11_canon_10
set_option maxHeartbeats 4000000 in
set_option maxRecDepth 100000 in
theorem c_farm (l : Launch) (dC : Nat → ClassId) (dI : Nat → Nat → Nat) (h0 : Nat) (tp : Nat) (cr : Nat) (rr : Nat) (ra : Nat) (nw : Nat) (im : Nat) (ps : Nat) (po : Nat) (dy : Nat) (cn : Nat) (tr : Nat) (ns : Nat) (nd : Nat) (nb : Nat) (nc : Nat) (nc0 : Nat) (nc1 : Nat) (nc2 : Nat) (nc3 : Nat) (nc4 : Nat) (nc5 : Nat) (nc6 : Nat) (nc7 : Nat) (nc8 : Nat) (nc9 : Nat) (a0 : Int32) (a1 : Int32) (sz : Nat) : Met l yX11_farm (ws_u yX11_farm cX11_farm 3 (some .int)) ({ frames := 1, cells := 0, slots := 0, locals := 21 }) (va_Pc [.ref h0, .int a0, .int a1] (cPre (dC, dI) [] [(h0, .inr (11, [.ref tp, .ref cr, .ref rr, .ref ra, .int 0, .ref nw, .ref im, .ref ps, .ref po, .ref dy, .ref cn, .ref tr])), (nw, .inr (10, [.ref nc, .ref ns, .int (-1), .int 0, .int 0, .ref nd, .ref nb, .int 0])), (nc, .inr (0, [.int 0, .int 0, .int 0, .int 0, .int 0, .int 0, .ref nc0, .ref nc1, .ref nc2, .ref nc3, .ref nc4, .ref nc5, .ref nc6, .ref nc7, .ref nc8, .ref nc9]))] sz)) (va_Qi (fun (r : Int32) (_ : Unit) => r = (-2)) (fun _ _ => True) (va_A [(h0, .inr (11, [.ref tp, .ref cr, .ref rr, .ref ra, .int 0, .ref nw, .ref im, .ref ps, .ref po, .ref dy, .ref cn, .ref tr])), (nw, .inr (10, [.ref nc, .ref ns, .int (-1), .int 0, .int 0, .ref nd, .ref nb, .int 0])), (nc, .inr (0, [.int 0, .int 0, .int 0, .int 0, .int 0, .int 0, .ref nc0, .ref nc1, .ref nc2, .ref nc3, .ref nc4, .ref nc5, .ref nc6, .ref nc7, .ref nc8, .ref nc9]))] sz)) 0 0 (va_A [(h0, .inr (11, [.ref tp, .ref cr, .ref rr, .ref ra, .int 0, .ref nw, .ref im, .ref ps, .ref po, .ref dy, .ref cn, .ref tr])), (nw, .inr (10, [.ref nc, .ref ns, .int (-1), .int 0, .int 0, .ref nd, .ref nb, .int 0])), (nc, .inr (0, [.int 0, .int 0, .int 0, .int 0, .int 0, .int 0, .ref nc0, .ref nc1, .ref nc2, .ref nc3, .ref nc4, .ref nc5, .ref nc6, .ref nc7, .ref nc8, .ref nc9]))] sz) := by
  refine Met.ofW (cc := cX11_farm) (maxL := 3) (ret := (some .int)) (by decide) rfl ?_
  intro p e s m args below meth c s₁ B hml hv
  obtain ⟨rfl, hsz, hP, hK, hD0, hE⟩ := hv
  have hx := B.exec
  have hb := B.bytes
  have hr := B.returns
  have hts0 := atoms_spec (ws := ws_u yX11_farm cX11_farm 3 (some .int)) B.pre
  have hts : ∀ w ∈ gT, w.before _ s = true := fun w h => hts0 w (List.mem_cons_of_mem _ h)
  have hown : s.vm.findClass RX11 = some m.cls := findClass_of_methodNamed B.named
  have hlocks := B.notSynchronized
  subst hsz
  have hD := hD0.self (sz := s.heap.size)
  generalize hAe : va_A [(h0, .inr (11, [.ref tp, .ref cr, .ref rr, .ref ra, .int 0, .ref nw, .ref im, .ref ps, .ref po, .ref dy, .ref cn, .ref tr])), (nw, .inr (10, [.ref nc, .ref ns, .int (-1), .int 0, .int 0, .ref nd, .ref nb, .int 0])), (nc, .inr (0, [.int 0, .int 0, .int 0, .int 0, .int 0, .int 0, .ref nc0, .ref nc1, .ref nc2, .ref nc3, .ref nc4, .ref nc5, .ref nc6, .ref nc7, .ref nc8, .ref nc9]))] s.heap.size = A at hD ⊢
  have hA : ∀ q : Nat, s.heap.size ≤ q → A q := fun q h => by rw [← hAe]; exact Or.inr h
  have hS : va_S A s.heap s.heap [] := va_S.rf
  have hl := lv_entry ([.ref h0, .int a0, .int a1]) (n := 3) (Nat.le_of_ble_eq_true rfl)
  rw [lg_entry_eq]
  generalize (lg_sl ([.ref h0, .int a0, .int a1]) ++ List.replicate (3 - (lg_sl ([.ref h0, .int a0, .int a1])).length) Slot.unset).toArray = ls at hl ⊢
  have hl : lv_has ls 3 [(0, .ref h0), (1, .int a0), (2, .int a1)] := hl
  have hP : va_P (dC, dI) vwCl [(h0, .inr (11, [.ref tp, .ref cr, .ref rr, .ref ra, .int 0, .ref nw, .ref im, .ref ps, .ref po, .ref dy, .ref cn, .ref tr])), (nw, .inr (10, [.ref nc, .ref ns, .int (-1), .int 0, .int 0, .ref nd, .ref nb, .int 0])), (nc, .inr (0, [.int 0, .int 0, .int 0, .int 0, .int 0, .int 0, .ref nc0, .ref nc1, .ref nc2, .ref nc3, .ref nc4, .ref nc5, .ref nc6, .ref nc7, .ref nc8, .ref nc9]))] s.heap := hP
  try clear hAe
  refine lv_aload_n hx hb dX11_farm_0 rfl (lv_at hl 0 rfl) ?_
  refine lv_iload_n hx hb dX11_farm_1 rfl (lv_at hl 1 rfl) ?_
  have hPc := hP.sub (ws' := [(h0, .inr (11, [.ref tp, .ref cr, .ref rr, .ref ra, .int 0, .ref nw, .ref im, .ref ps, .ref po, .ref dy, .ref cn, .ref tr])), (nw, .inr (10, [.ref nc, .ref ns, .int (-1), .int 0, .int 0, .ref nd, .ref nb, .int 0])), (nc, .inr (0, [.int 0, .int 0, .int 0, .int 0, .int 0, .int 0, .ref nc0, .ref nc1, .ref nc2, .ref nc3, .ref nc4, .ref nc5, .ref nc6, .ref nc7, .ref nc8, .ref nc9]))]) [0, 1, 2] rfl
  have hDc := hD.sub (ws' := [(h0, .inr (11, [.ref tp, .ref cr, .ref rr, .ref ra, .int 0, .ref nw, .ref im, .ref ps, .ref po, .ref dy, .ref cn, .ref tr])), (nw, .inr (10, [.ref nc, .ref ns, .int (-1), .int 0, .int 0, .ref nd, .ref nb, .int 0])), (nc, .inr (0, [.int 0, .int 0, .int 0, .int 0, .int 0, .int 0, .ref nc0, .ref nc1, .ref nc2, .ref nc3, .ref nc4, .ref nc5, .ref nc6, .ref nc7, .ref nc8, .ref nc9]))]) [0, 1, 2] (by decide) rfl
  have hKc := hK.sub (tys' := []) [] rfl
  have hFc := va_free (wc := [(h0, .inr (11, [.ref tp, .ref cr, .ref rr, .ref ra, .int 0, .ref nw, .ref im, .ref ps, .ref po, .ref dy, .ref cn, .ref tr])), (nw, .inr (10, [.ref nc, .ref ns, .int (-1), .int 0, .int 0, .ref nd, .ref nb, .int 0])), (nc, .inr (0, [.int 0, .int 0, .int 0, .int 0, .int 0, .int 0, .ref nc0, .ref nc1, .ref nc2, .ref nc3, .ref nc4, .ref nc5, .ref nc6, .ref nc7, .ref nc8, .ref nc9]))]) hD hS hA [0, 1, 2] rfl
  refine va_calli (va_runV (As := [.int a0]) (rest := []) ⟨hx, hb, hml, hown, hts⟩ (c_isFarm l dC dI h0 tp cr rr ra nw im ps po dy cn tr ns nd nb nc nc0 nc1 nc2 nc3 nc4 nc5 nc6 nc7 nc8 nc9 a0  s.heap.size) (cwV 1 hts (gUV tw_730 tw_732 ts_1_1 tw_1 tw_733) rfl rfl rfl (by decide +kernel) ⟨(Nat.le_of_ble_eq_true rfl), (Nat.le_of_ble_eq_true rfl)⟩) ⟨cPre.blind, va_recv hKc hPc (ci := 11) (q0 := 0) rfl rfl, cPre.use hPc hKc hDc hE⟩ rfl rfl hl.1 rfl (lv_room (Nat.le_of_ble_eq_true rfl)) dX11_farm_2 ⟨(Nat.le_of_ble_eq_true rfl), (Nat.le_of_ble_eq_true rfl)⟩) hS (fun q _ h => hFc q h) hFc (fun r_1 u t H1 locs ht hvm hw hB hz1 hk1 hS => ?_)
  obtain ⟨hP1, hK1, hD1⟩ := hB
  rw [ht] at hP1
  obtain ⟨hP, hD⟩ := va_join (wr := []) (w1 := [(h0, .inr (11, [.ref tp, .ref cr, .ref rr, .ref ra, .int 0, .ref nw, .ref im, .ref ps, .ref po, .ref dy, .ref cn, .ref tr])), (nw, .inr (10, [.ref nc, .ref ns, .int (-1), .int 0, .int 0, .ref nd, .ref nb, .int 0])), (nc, .inr (0, [.int 0, .int 0, .int 0, .int 0, .int 0, .int 0, .ref nc0, .ref nc1, .ref nc2, .ref nc3, .ref nc4, .ref nc5, .ref nc6, .ref nc7, .ref nc8, .ref nc9]))]) hP hD [0, 1, 2] [] rfl rfl (by decide) (by decide) hk1 hFc hP1 hD1
  generalize H1 = H at hP hS ⊢
  have hP : va_P (dC, dI) vwCl [(h0, .inr (11, [.ref tp, .ref cr, .ref rr, .ref ra, .int 0, .ref nw, .ref im, .ref ps, .ref po, .ref dy, .ref cn, .ref tr])), (nw, .inr (10, [.ref nc, .ref ns, .int (-1), .int 0, .int 0, .ref nd, .ref nb, .int 0])), (nc, .inr (0, [.int 0, .int 0, .int 0, .int 0, .int 0, .int 0, .ref nc0, .ref nc1, .ref nc2, .ref nc3, .ref nc4, .ref nc5, .ref nc6, .ref nc7, .ref nc8, .ref nc9]))] H := hP
  have hD : va_D A [(h0, .inr (11, [.ref tp, .ref cr, .ref rr, .ref ra, .int 0, .ref nw, .ref im, .ref ps, .ref po, .ref dy, .ref cn, .ref tr])), (nw, .inr (10, [.ref nc, .ref ns, .int (-1), .int 0, .int 0, .ref nd, .ref nb, .int 0])), (nc, .inr (0, [.int 0, .int 0, .int 0, .int 0, .int 0, .int 0, .ref nc0, .ref nc1, .ref nc2, .ref nc3, .ref nc4, .ref nc5, .ref nc6, .ref nc7, .ref nc8, .ref nc9]))] := hD
  obtain rfl : r_1 = 0 := hw
  refine lv_if_ne (tgt := 11) hx hb dX11_farm_5 (by decide) (fun c_2 => absurd (by decide) c_2) (fun c_2 => ?_)
  refine lv_bipush (v := (-2)) hx hb dX11_farm_8 (by decide) ?_
  refine W.widen (k := 0) (n := 0) (Nat.le_of_ble_eq_true rfl) (Nat.le_of_ble_eq_true rfl) ?_
  exact W.iret (v := (-2)) hx hb hr (fun t ht hW => ⟨⟨(-2), (), rfl, rfl, trivial⟩, hS.F ht⟩) hS.2.2 dX11_farm_10
set_option maxHeartbeats 4000000 in
set_option maxRecDepth 100000 in
theorem c_day (l : Launch) (dC : Nat → ClassId) (dI : Nat → Nat → Nat) (h0 : Nat) (tp : Nat) (cr : Nat) (rr : Nat) (ra : Nat) (nw : Nat) (im : Nat) (ps : Nat) (po : Nat) (dy : Nat) (cn : Nat) (tr : Nat) (ns : Nat) (nd : Nat) (nb : Nat) (nc : Nat) (nc0 : Nat) (nc1 : Nat) (nc2 : Nat) (nc3 : Nat) (nc4 : Nat) (nc5 : Nat) (nc6 : Nat) (nc7 : Nat) (nc8 : Nat) (nc9 : Nat) (sz : Nat) : Met l yX11_day (ws_u yX11_day cX11_day 1 (some .int)) ({ frames := 0, cells := 0, slots := 0, locals := 0 }) (va_Pc [.ref h0] (cPre (dC, dI) [] [(h0, .inr (11, [.ref tp, .ref cr, .ref rr, .ref ra, .int 0, .ref nw, .ref im, .ref ps, .ref po, .ref dy, .ref cn, .ref tr])), (nw, .inr (10, [.ref nc, .ref ns, .int (-1), .int 0, .int 0, .ref nd, .ref nb, .int 0])), (nc, .inr (0, [.int 0, .int 0, .int 0, .int 0, .int 0, .int 0, .ref nc0, .ref nc1, .ref nc2, .ref nc3, .ref nc4, .ref nc5, .ref nc6, .ref nc7, .ref nc8, .ref nc9]))] sz)) (va_Qi (fun (r : Int32) (_ : Unit) => r = (-2)) (fun _ _ => True) (va_A [(h0, .inr (11, [.ref tp, .ref cr, .ref rr, .ref ra, .int 0, .ref nw, .ref im, .ref ps, .ref po, .ref dy, .ref cn, .ref tr])), (nw, .inr (10, [.ref nc, .ref ns, .int (-1), .int 0, .int 0, .ref nd, .ref nb, .int 0])), (nc, .inr (0, [.int 0, .int 0, .int 0, .int 0, .int 0, .int 0, .ref nc0, .ref nc1, .ref nc2, .ref nc3, .ref nc4, .ref nc5, .ref nc6, .ref nc7, .ref nc8, .ref nc9]))] sz)) 0 0 (va_A [(h0, .inr (11, [.ref tp, .ref cr, .ref rr, .ref ra, .int 0, .ref nw, .ref im, .ref ps, .ref po, .ref dy, .ref cn, .ref tr])), (nw, .inr (10, [.ref nc, .ref ns, .int (-1), .int 0, .int 0, .ref nd, .ref nb, .int 0])), (nc, .inr (0, [.int 0, .int 0, .int 0, .int 0, .int 0, .int 0, .ref nc0, .ref nc1, .ref nc2, .ref nc3, .ref nc4, .ref nc5, .ref nc6, .ref nc7, .ref nc8, .ref nc9]))] sz) := by
  refine Met.ofW (cc := cX11_day) (maxL := 1) (ret := (some .int)) (by decide) rfl ?_
  intro p e s m args below meth c s₁ B hml hv
  obtain ⟨rfl, hsz, hP, hK, hD0, hE⟩ := hv
  have hx := B.exec
  have hb := B.bytes
  have hr := B.returns
  have hts0 := atoms_spec (ws := ws_u yX11_day cX11_day 1 (some .int)) B.pre
  have hts : ∀ w ∈ gT, w.before _ s = true := fun w h => hts0 w (List.mem_cons_of_mem _ h)
  have hown : s.vm.findClass RX11 = some m.cls := findClass_of_methodNamed B.named
  have hlocks := B.notSynchronized
  subst hsz
  have hD := hD0.self (sz := s.heap.size)
  generalize hAe : va_A [(h0, .inr (11, [.ref tp, .ref cr, .ref rr, .ref ra, .int 0, .ref nw, .ref im, .ref ps, .ref po, .ref dy, .ref cn, .ref tr])), (nw, .inr (10, [.ref nc, .ref ns, .int (-1), .int 0, .int 0, .ref nd, .ref nb, .int 0])), (nc, .inr (0, [.int 0, .int 0, .int 0, .int 0, .int 0, .int 0, .ref nc0, .ref nc1, .ref nc2, .ref nc3, .ref nc4, .ref nc5, .ref nc6, .ref nc7, .ref nc8, .ref nc9]))] s.heap.size = A at hD ⊢
  have hA : ∀ q : Nat, s.heap.size ≤ q → A q := fun q h => by rw [← hAe]; exact Or.inr h
  have hS : va_S A s.heap s.heap [] := va_S.rf
  have hl := lv_entry ([.ref h0]) (n := 1) (Nat.le_of_ble_eq_true rfl)
  rw [lg_entry_eq]
  generalize (lg_sl ([.ref h0]) ++ List.replicate (1 - (lg_sl ([.ref h0])).length) Slot.unset).toArray = ls at hl ⊢
  have hl : lv_has ls 1 [(0, .ref h0)] := hl
  have hP : va_P (dC, dI) vwCl [(h0, .inr (11, [.ref tp, .ref cr, .ref rr, .ref ra, .int 0, .ref nw, .ref im, .ref ps, .ref po, .ref dy, .ref cn, .ref tr])), (nw, .inr (10, [.ref nc, .ref ns, .int (-1), .int 0, .int 0, .ref nd, .ref nb, .int 0])), (nc, .inr (0, [.int 0, .int 0, .int 0, .int 0, .int 0, .int 0, .ref nc0, .ref nc1, .ref nc2, .ref nc3, .ref nc4, .ref nc5, .ref nc6, .ref nc7, .ref nc8, .ref nc9]))] s.heap := hP
  try clear hAe
  refine lv_aload_n hx hb dX11_day_0 rfl (lv_at hl 0 rfl) ?_
  refine va_get (D := (dC, dI)) (ci := 11) (v := .ref nw) (C := RX11) (T := TX11) (N := 12) hx hb hts iX11 hown hK hP 0 rfl rfl 5 (by decide) (hts _ tw_428) (fun _ h9 => h9) rfl dX11_day_1 ?_
  refine va_get (D := (dC, dI)) (ci := 10) (v := .ref nc) (C := RX10) (T := TX10) (N := 8) hx hb hts iX10 hown hK hP 1 rfl rfl 0 (by decide) (hts _ tw_282) (fun _ h9 => h9) rfl dX11_day_4 ?_
  refine va_get (D := (dC, dI)) (ci := 0) (v := .int 0) (C := RX0) (T := TX0) (N := 16) hx hb hts iX0 hown hK hP 2 rfl rfl 0 (by decide) (hts _ tw_69) (fun _ h9 => h9) rfl dX11_day_7 ?_
  refine lv_if_eq (tgt := 29) hx hb dX11_day_10 (by decide) (fun c_1 => ?_) (fun c_1 => absurd (by decide) c_1)
  refine lv_bipush (v := (-2)) hx hb dX11_day_29 (by decide) ?_
  refine W.widen (k := 0) (n := 0) (Nat.le_of_ble_eq_true rfl) (Nat.le_of_ble_eq_true rfl) ?_
  exact W.iret (v := (-2)) hx hb hr (fun t ht hW => ⟨⟨(-2), (), rfl, rfl, trivial⟩, hS.F ht⟩) hS.2.2 dX11_day_31
set_option maxHeartbeats 4000000 in
set_option maxRecDepth 100000 in
theorem c_visit (l : Launch) (dC : Nat → ClassId) (dI : Nat → Nat → Nat) (h0 : Nat) (tp : Nat) (cr : Nat) (rr : Nat) (ra : Nat) (nw : Nat) (im : Nat) (ps : Nat) (po : Nat) (dy : Nat) (cn : Nat) (tr : Nat) (ns : Nat) (nd : Nat) (nb : Nat) (nc : Nat) (nc0 : Nat) (nc1 : Nat) (nc2 : Nat) (nc3 : Nat) (nc4 : Nat) (nc5 : Nat) (nc6 : Nat) (nc7 : Nat) (nc8 : Nat) (nc9 : Nat) (a0 : Int32) (sz : Nat) : Met l yX11_visit (ws_u yX11_visit cX11_visit 2 (some .int)) ({ frames := 1, cells := 0, slots := 0, locals := 21 }) (va_Pc [.ref h0, .int a0] (cPre (dC, dI) [] [(h0, .inr (11, [.ref tp, .ref cr, .ref rr, .ref ra, .int 0, .ref nw, .ref im, .ref ps, .ref po, .ref dy, .ref cn, .ref tr])), (nw, .inr (10, [.ref nc, .ref ns, .int (-1), .int 0, .int 0, .ref nd, .ref nb, .int 0])), (nc, .inr (0, [.int 0, .int 0, .int 0, .int 0, .int 0, .int 0, .ref nc0, .ref nc1, .ref nc2, .ref nc3, .ref nc4, .ref nc5, .ref nc6, .ref nc7, .ref nc8, .ref nc9]))] sz)) (va_Qi (fun (r : Int32) (_ : Unit) => r = (-1)) (fun _ _ => True) (va_A [(h0, .inr (11, [.ref tp, .ref cr, .ref rr, .ref ra, .int 0, .ref nw, .ref im, .ref ps, .ref po, .ref dy, .ref cn, .ref tr])), (nw, .inr (10, [.ref nc, .ref ns, .int (-1), .int 0, .int 0, .ref nd, .ref nb, .int 0])), (nc, .inr (0, [.int 0, .int 0, .int 0, .int 0, .int 0, .int 0, .ref nc0, .ref nc1, .ref nc2, .ref nc3, .ref nc4, .ref nc5, .ref nc6, .ref nc7, .ref nc8, .ref nc9]))] sz)) 0 0 (va_A [(h0, .inr (11, [.ref tp, .ref cr, .ref rr, .ref ra, .int 0, .ref nw, .ref im, .ref ps, .ref po, .ref dy, .ref cn, .ref tr])), (nw, .inr (10, [.ref nc, .ref ns, .int (-1), .int 0, .int 0, .ref nd, .ref nb, .int 0])), (nc, .inr (0, [.int 0, .int 0, .int 0, .int 0, .int 0, .int 0, .ref nc0, .ref nc1, .ref nc2, .ref nc3, .ref nc4, .ref nc5, .ref nc6, .ref nc7, .ref nc8, .ref nc9]))] sz) := by
  refine Met.ofW (cc := cX11_visit) (maxL := 2) (ret := (some .int)) (by decide) rfl ?_
  intro p e s m args below meth c s₁ B hml hv
  obtain ⟨rfl, hsz, hP, hK, hD0, hE⟩ := hv
  have hx := B.exec
  have hb := B.bytes
  have hr := B.returns
  have hts0 := atoms_spec (ws := ws_u yX11_visit cX11_visit 2 (some .int)) B.pre
  have hts : ∀ w ∈ gT, w.before _ s = true := fun w h => hts0 w (List.mem_cons_of_mem _ h)
  have hown : s.vm.findClass RX11 = some m.cls := findClass_of_methodNamed B.named
  have hlocks := B.notSynchronized
  subst hsz
  have hD := hD0.self (sz := s.heap.size)
  generalize hAe : va_A [(h0, .inr (11, [.ref tp, .ref cr, .ref rr, .ref ra, .int 0, .ref nw, .ref im, .ref ps, .ref po, .ref dy, .ref cn, .ref tr])), (nw, .inr (10, [.ref nc, .ref ns, .int (-1), .int 0, .int 0, .ref nd, .ref nb, .int 0])), (nc, .inr (0, [.int 0, .int 0, .int 0, .int 0, .int 0, .int 0, .ref nc0, .ref nc1, .ref nc2, .ref nc3, .ref nc4, .ref nc5, .ref nc6, .ref nc7, .ref nc8, .ref nc9]))] s.heap.size = A at hD ⊢
  have hA : ∀ q : Nat, s.heap.size ≤ q → A q := fun q h => by rw [← hAe]; exact Or.inr h
  have hS : va_S A s.heap s.heap [] := va_S.rf
  have hl := lv_entry ([.ref h0, .int a0]) (n := 2) (Nat.le_of_ble_eq_true rfl)
  rw [lg_entry_eq]
  generalize (lg_sl ([.ref h0, .int a0]) ++ List.replicate (2 - (lg_sl ([.ref h0, .int a0])).length) Slot.unset).toArray = ls at hl ⊢
  have hl : lv_has ls 2 [(0, .ref h0), (1, .int a0)] := hl
  have hP : va_P (dC, dI) vwCl [(h0, .inr (11, [.ref tp, .ref cr, .ref rr, .ref ra, .int 0, .ref nw, .ref im, .ref ps, .ref po, .ref dy, .ref cn, .ref tr])), (nw, .inr (10, [.ref nc, .ref ns, .int (-1), .int 0, .int 0, .ref nd, .ref nb, .int 0])), (nc, .inr (0, [.int 0, .int 0, .int 0, .int 0, .int 0, .int 0, .ref nc0, .ref nc1, .ref nc2, .ref nc3, .ref nc4, .ref nc5, .ref nc6, .ref nc7, .ref nc8, .ref nc9]))] s.heap := hP
  try clear hAe
  refine lv_aload_n hx hb dX11_visit_0 rfl (lv_at hl 0 rfl) ?_
  refine lv_iload_n hx hb dX11_visit_1 rfl (lv_at hl 1 rfl) ?_
  have hPc := hP.sub (ws' := [(h0, .inr (11, [.ref tp, .ref cr, .ref rr, .ref ra, .int 0, .ref nw, .ref im, .ref ps, .ref po, .ref dy, .ref cn, .ref tr])), (nw, .inr (10, [.ref nc, .ref ns, .int (-1), .int 0, .int 0, .ref nd, .ref nb, .int 0])), (nc, .inr (0, [.int 0, .int 0, .int 0, .int 0, .int 0, .int 0, .ref nc0, .ref nc1, .ref nc2, .ref nc3, .ref nc4, .ref nc5, .ref nc6, .ref nc7, .ref nc8, .ref nc9]))]) [0, 1, 2] rfl
  have hDc := hD.sub (ws' := [(h0, .inr (11, [.ref tp, .ref cr, .ref rr, .ref ra, .int 0, .ref nw, .ref im, .ref ps, .ref po, .ref dy, .ref cn, .ref tr])), (nw, .inr (10, [.ref nc, .ref ns, .int (-1), .int 0, .int 0, .ref nd, .ref nb, .int 0])), (nc, .inr (0, [.int 0, .int 0, .int 0, .int 0, .int 0, .int 0, .ref nc0, .ref nc1, .ref nc2, .ref nc3, .ref nc4, .ref nc5, .ref nc6, .ref nc7, .ref nc8, .ref nc9]))]) [0, 1, 2] (by decide) rfl
  have hKc := hK.sub (tys' := []) [] rfl
  have hFc := va_free (wc := [(h0, .inr (11, [.ref tp, .ref cr, .ref rr, .ref ra, .int 0, .ref nw, .ref im, .ref ps, .ref po, .ref dy, .ref cn, .ref tr])), (nw, .inr (10, [.ref nc, .ref ns, .int (-1), .int 0, .int 0, .ref nd, .ref nb, .int 0])), (nc, .inr (0, [.int 0, .int 0, .int 0, .int 0, .int 0, .int 0, .ref nc0, .ref nc1, .ref nc2, .ref nc3, .ref nc4, .ref nc5, .ref nc6, .ref nc7, .ref nc8, .ref nc9]))]) hD hS hA [0, 1, 2] rfl
  refine va_calli (va_runV (As := [.int a0]) (rest := []) ⟨hx, hb, hml, hown, hts⟩ (c_isFarm l dC dI h0 tp cr rr ra nw im ps po dy cn tr ns nd nb nc nc0 nc1 nc2 nc3 nc4 nc5 nc6 nc7 nc8 nc9 a0  s.heap.size) (cwV 1 hts (gUV tw_730 tw_732 ts_1_1 tw_1 tw_733) rfl rfl rfl (by decide +kernel) ⟨(Nat.le_of_ble_eq_true rfl), (Nat.le_of_ble_eq_true rfl)⟩) ⟨cPre.blind, va_recv hKc hPc (ci := 11) (q0 := 0) rfl rfl, cPre.use hPc hKc hDc hE⟩ rfl rfl hl.1 rfl (lv_room (Nat.le_of_ble_eq_true rfl)) dX11_visit_2 ⟨(Nat.le_of_ble_eq_true rfl), (Nat.le_of_ble_eq_true rfl)⟩) hS (fun q _ h => hFc q h) hFc (fun r_1 u t H1 locs ht hvm hw hB hz1 hk1 hS => ?_)
  obtain ⟨hP1, hK1, hD1⟩ := hB
  rw [ht] at hP1
  obtain ⟨hP, hD⟩ := va_join (wr := []) (w1 := [(h0, .inr (11, [.ref tp, .ref cr, .ref rr, .ref ra, .int 0, .ref nw, .ref im, .ref ps, .ref po, .ref dy, .ref cn, .ref tr])), (nw, .inr (10, [.ref nc, .ref ns, .int (-1), .int 0, .int 0, .ref nd, .ref nb, .int 0])), (nc, .inr (0, [.int 0, .int 0, .int 0, .int 0, .int 0, .int 0, .ref nc0, .ref nc1, .ref nc2, .ref nc3, .ref nc4, .ref nc5, .ref nc6, .ref nc7, .ref nc8, .ref nc9]))]) hP hD [0, 1, 2] [] rfl rfl (by decide) (by decide) hk1 hFc hP1 hD1
  generalize H1 = H at hP hS ⊢
  have hP : va_P (dC, dI) vwCl [(h0, .inr (11, [.ref tp, .ref cr, .ref rr, .ref ra, .int 0, .ref nw, .ref im, .ref ps, .ref po, .ref dy, .ref cn, .ref tr])), (nw, .inr (10, [.ref nc, .ref ns, .int (-1), .int 0, .int 0, .ref nd, .ref nb, .int 0])), (nc, .inr (0, [.int 0, .int 0, .int 0, .int 0, .int 0, .int 0, .ref nc0, .ref nc1, .ref nc2, .ref nc3, .ref nc4, .ref nc5, .ref nc6, .ref nc7, .ref nc8, .ref nc9]))] H := hP
  have hD : va_D A [(h0, .inr (11, [.ref tp, .ref cr, .ref rr, .ref ra, .int 0, .ref nw, .ref im, .ref ps, .ref po, .ref dy, .ref cn, .ref tr])), (nw, .inr (10, [.ref nc, .ref ns, .int (-1), .int 0, .int 0, .ref nd, .ref nb, .int 0])), (nc, .inr (0, [.int 0, .int 0, .int 0, .int 0, .int 0, .int 0, .ref nc0, .ref nc1, .ref nc2, .ref nc3, .ref nc4, .ref nc5, .ref nc6, .ref nc7, .ref nc8, .ref nc9]))] := hD
  obtain rfl : r_1 = 0 := hw
  refine lv_if_eq (tgt := 16) hx hb dX11_visit_5 (by decide) (fun c_2 => ?_) (fun c_2 => absurd (by decide) c_2)
  refine lv_iconst (v := (-1)) hx hb dX11_visit_16 (by decide) ?_
  refine W.widen (k := 0) (n := 0) (Nat.le_of_ble_eq_true rfl) (Nat.le_of_ble_eq_true rfl) ?_
  exact W.iret (v := (-1)) hx hb hr (fun t ht hW => ⟨⟨(-1), (), rfl, rfl, trivial⟩, hS.F ht⟩) hS.2.2 dX11_visit_17
set_option maxHeartbeats 4000000 in
set_option maxRecDepth 100000 in
theorem c_promise (l : Launch) (dC : Nat → ClassId) (dI : Nat → Nat → Nat) (h0 : Nat) (tp : Nat) (cr : Nat) (rr : Nat) (ra : Nat) (nw : Nat) (im : Nat) (ps : Nat) (po : Nat) (dy : Nat) (cn : Nat) (tr : Nat) (ns : Nat) (nd : Nat) (nb : Nat) (nc : Nat) (nc0 : Nat) (nc1 : Nat) (nc2 : Nat) (nc3 : Nat) (nc4 : Nat) (nc5 : Nat) (nc6 : Nat) (nc7 : Nat) (nc8 : Nat) (nc9 : Nat) (a0 : Int32) (a1 : Int32) (sz : Nat) : Met l yX11_promise (ws_u yX11_promise cX11_promise 4 (some .int)) ({ frames := 1, cells := 0, slots := 0, locals := 21 }) (va_Pc [.ref h0, .int a0, .int a1] (cPre (dC, dI) [] [(h0, .inr (11, [.ref tp, .ref cr, .ref rr, .ref ra, .int 0, .ref nw, .ref im, .ref ps, .ref po, .ref dy, .ref cn, .ref tr])), (nw, .inr (10, [.ref nc, .ref ns, .int (-1), .int 0, .int 0, .ref nd, .ref nb, .int 0])), (nc, .inr (0, [.int 0, .int 0, .int 0, .int 0, .int 0, .int 0, .ref nc0, .ref nc1, .ref nc2, .ref nc3, .ref nc4, .ref nc5, .ref nc6, .ref nc7, .ref nc8, .ref nc9]))] sz)) (va_Qi (fun (r : Int32) (_ : Unit) => r = (-1)) (fun _ _ => True) (va_A [(h0, .inr (11, [.ref tp, .ref cr, .ref rr, .ref ra, .int 0, .ref nw, .ref im, .ref ps, .ref po, .ref dy, .ref cn, .ref tr])), (nw, .inr (10, [.ref nc, .ref ns, .int (-1), .int 0, .int 0, .ref nd, .ref nb, .int 0])), (nc, .inr (0, [.int 0, .int 0, .int 0, .int 0, .int 0, .int 0, .ref nc0, .ref nc1, .ref nc2, .ref nc3, .ref nc4, .ref nc5, .ref nc6, .ref nc7, .ref nc8, .ref nc9]))] sz)) 0 0 (va_A [(h0, .inr (11, [.ref tp, .ref cr, .ref rr, .ref ra, .int 0, .ref nw, .ref im, .ref ps, .ref po, .ref dy, .ref cn, .ref tr])), (nw, .inr (10, [.ref nc, .ref ns, .int (-1), .int 0, .int 0, .ref nd, .ref nb, .int 0])), (nc, .inr (0, [.int 0, .int 0, .int 0, .int 0, .int 0, .int 0, .ref nc0, .ref nc1, .ref nc2, .ref nc3, .ref nc4, .ref nc5, .ref nc6, .ref nc7, .ref nc8, .ref nc9]))] sz) := by
  refine Met.ofW (cc := cX11_promise) (maxL := 4) (ret := (some .int)) (by decide) rfl ?_
  intro p e s m args below meth c s₁ B hml hv
  obtain ⟨rfl, hsz, hP, hK, hD0, hE⟩ := hv
  have hx := B.exec
  have hb := B.bytes
  have hr := B.returns
  have hts0 := atoms_spec (ws := ws_u yX11_promise cX11_promise 4 (some .int)) B.pre
  have hts : ∀ w ∈ gT, w.before _ s = true := fun w h => hts0 w (List.mem_cons_of_mem _ h)
  have hown : s.vm.findClass RX11 = some m.cls := findClass_of_methodNamed B.named
  have hlocks := B.notSynchronized
  subst hsz
  have hD := hD0.self (sz := s.heap.size)
  generalize hAe : va_A [(h0, .inr (11, [.ref tp, .ref cr, .ref rr, .ref ra, .int 0, .ref nw, .ref im, .ref ps, .ref po, .ref dy, .ref cn, .ref tr])), (nw, .inr (10, [.ref nc, .ref ns, .int (-1), .int 0, .int 0, .ref nd, .ref nb, .int 0])), (nc, .inr (0, [.int 0, .int 0, .int 0, .int 0, .int 0, .int 0, .ref nc0, .ref nc1, .ref nc2, .ref nc3, .ref nc4, .ref nc5, .ref nc6, .ref nc7, .ref nc8, .ref nc9]))] s.heap.size = A at hD ⊢
  have hA : ∀ q : Nat, s.heap.size ≤ q → A q := fun q h => by rw [← hAe]; exact Or.inr h
  have hS : va_S A s.heap s.heap [] := va_S.rf
  have hl := lv_entry ([.ref h0, .int a0, .int a1]) (n := 4) (Nat.le_of_ble_eq_true rfl)
  rw [lg_entry_eq]
  generalize (lg_sl ([.ref h0, .int a0, .int a1]) ++ List.replicate (4 - (lg_sl ([.ref h0, .int a0, .int a1])).length) Slot.unset).toArray = ls at hl ⊢
  have hl : lv_has ls 4 [(0, .ref h0), (1, .int a0), (2, .int a1)] := hl
  have hP : va_P (dC, dI) vwCl [(h0, .inr (11, [.ref tp, .ref cr, .ref rr, .ref ra, .int 0, .ref nw, .ref im, .ref ps, .ref po, .ref dy, .ref cn, .ref tr])), (nw, .inr (10, [.ref nc, .ref ns, .int (-1), .int 0, .int 0, .ref nd, .ref nb, .int 0])), (nc, .inr (0, [.int 0, .int 0, .int 0, .int 0, .int 0, .int 0, .ref nc0, .ref nc1, .ref nc2, .ref nc3, .ref nc4, .ref nc5, .ref nc6, .ref nc7, .ref nc8, .ref nc9]))] s.heap := hP
  try clear hAe
  refine lv_aload_n hx hb dX11_promise_0 rfl (lv_at hl 0 rfl) ?_
  refine lv_iload_n hx hb dX11_promise_1 rfl (lv_at hl 1 rfl) ?_
  have hPc := hP.sub (ws' := [(h0, .inr (11, [.ref tp, .ref cr, .ref rr, .ref ra, .int 0, .ref nw, .ref im, .ref ps, .ref po, .ref dy, .ref cn, .ref tr])), (nw, .inr (10, [.ref nc, .ref ns, .int (-1), .int 0, .int 0, .ref nd, .ref nb, .int 0])), (nc, .inr (0, [.int 0, .int 0, .int 0, .int 0, .int 0, .int 0, .ref nc0, .ref nc1, .ref nc2, .ref nc3, .ref nc4, .ref nc5, .ref nc6, .ref nc7, .ref nc8, .ref nc9]))]) [0, 1, 2] rfl
  have hDc := hD.sub (ws' := [(h0, .inr (11, [.ref tp, .ref cr, .ref rr, .ref ra, .int 0, .ref nw, .ref im, .ref ps, .ref po, .ref dy, .ref cn, .ref tr])), (nw, .inr (10, [.ref nc, .ref ns, .int (-1), .int 0, .int 0, .ref nd, .ref nb, .int 0])), (nc, .inr (0, [.int 0, .int 0, .int 0, .int 0, .int 0, .int 0, .ref nc0, .ref nc1, .ref nc2, .ref nc3, .ref nc4, .ref nc5, .ref nc6, .ref nc7, .ref nc8, .ref nc9]))]) [0, 1, 2] (by decide) rfl
  have hKc := hK.sub (tys' := []) [] rfl
  have hFc := va_free (wc := [(h0, .inr (11, [.ref tp, .ref cr, .ref rr, .ref ra, .int 0, .ref nw, .ref im, .ref ps, .ref po, .ref dy, .ref cn, .ref tr])), (nw, .inr (10, [.ref nc, .ref ns, .int (-1), .int 0, .int 0, .ref nd, .ref nb, .int 0])), (nc, .inr (0, [.int 0, .int 0, .int 0, .int 0, .int 0, .int 0, .ref nc0, .ref nc1, .ref nc2, .ref nc3, .ref nc4, .ref nc5, .ref nc6, .ref nc7, .ref nc8, .ref nc9]))]) hD hS hA [0, 1, 2] rfl
  refine va_calli (va_runV (As := [.int a0]) (rest := []) ⟨hx, hb, hml, hown, hts⟩ (c_isBoy l dC dI h0 tp cr rr ra nw im ps po dy cn tr ns nd nb nc nc0 nc1 nc2 nc3 nc4 nc5 nc6 nc7 nc8 nc9 a0  s.heap.size) (cwV 1 hts (gUV tw_710 tw_712 ts_0_15 tw_1 tw_713) rfl rfl rfl (by decide +kernel) ⟨(Nat.le_of_ble_eq_true rfl), (Nat.le_of_ble_eq_true rfl)⟩) ⟨cPre.blind, va_recv hKc hPc (ci := 11) (q0 := 0) rfl rfl, cPre.use hPc hKc hDc hE⟩ rfl rfl hl.1 rfl (lv_room (Nat.le_of_ble_eq_true rfl)) dX11_promise_2 ⟨(Nat.le_of_ble_eq_true rfl), (Nat.le_of_ble_eq_true rfl)⟩) hS (fun q _ h => hFc q h) hFc (fun r_1 u t H1 locs ht hvm hw hB hz1 hk1 hS => ?_)
  obtain ⟨hP1, hK1, hD1⟩ := hB
  rw [ht] at hP1
  obtain ⟨hP, hD⟩ := va_join (wr := []) (w1 := [(h0, .inr (11, [.ref tp, .ref cr, .ref rr, .ref ra, .int 0, .ref nw, .ref im, .ref ps, .ref po, .ref dy, .ref cn, .ref tr])), (nw, .inr (10, [.ref nc, .ref ns, .int (-1), .int 0, .int 0, .ref nd, .ref nb, .int 0])), (nc, .inr (0, [.int 0, .int 0, .int 0, .int 0, .int 0, .int 0, .ref nc0, .ref nc1, .ref nc2, .ref nc3, .ref nc4, .ref nc5, .ref nc6, .ref nc7, .ref nc8, .ref nc9]))]) hP hD [0, 1, 2] [] rfl rfl (by decide) (by decide) hk1 hFc hP1 hD1
  generalize H1 = H at hP hS ⊢
  have hP : va_P (dC, dI) vwCl [(h0, .inr (11, [.ref tp, .ref cr, .ref rr, .ref ra, .int 0, .ref nw, .ref im, .ref ps, .ref po, .ref dy, .ref cn, .ref tr])), (nw, .inr (10, [.ref nc, .ref ns, .int (-1), .int 0, .int 0, .ref nd, .ref nb, .int 0])), (nc, .inr (0, [.int 0, .int 0, .int 0, .int 0, .int 0, .int 0, .ref nc0, .ref nc1, .ref nc2, .ref nc3, .ref nc4, .ref nc5, .ref nc6, .ref nc7, .ref nc8, .ref nc9]))] H := hP
  have hD : va_D A [(h0, .inr (11, [.ref tp, .ref cr, .ref rr, .ref ra, .int 0, .ref nw, .ref im, .ref ps, .ref po, .ref dy, .ref cn, .ref tr])), (nw, .inr (10, [.ref nc, .ref ns, .int (-1), .int 0, .int 0, .ref nd, .ref nb, .int 0])), (nc, .inr (0, [.int 0, .int 0, .int 0, .int 0, .int 0, .int 0, .ref nc0, .ref nc1, .ref nc2, .ref nc3, .ref nc4, .ref nc5, .ref nc6, .ref nc7, .ref nc8, .ref nc9]))] := hD
  obtain rfl : r_1 = 0 := hw
  refine lv_if_eq (tgt := 18) hx hb dX11_promise_5 (by decide) (fun c_2 => ?_) (fun c_2 => absurd (by decide) c_2)
  refine lv_iconst (v := (-1)) hx hb dX11_promise_18 (by decide) ?_
  refine W.widen (k := 0) (n := 0) (Nat.le_of_ble_eq_true rfl) (Nat.le_of_ble_eq_true rfl) ?_
  exact W.iret (v := (-1)) hx hb hr (fun t ht hW => ⟨⟨(-1), (), rfl, rfl, trivial⟩, hS.F ht⟩) hS.2.2 dX11_promise_19
set_option maxHeartbeats 4000000 in
set_option maxRecDepth 100000 in
theorem c_give (l : Launch) (dC : Nat → ClassId) (dI : Nat → Nat → Nat) (h0 : Nat) (tp : Nat) (cr : Nat) (rr : Nat) (ra : Nat) (nw : Nat) (im : Nat) (ps : Nat) (po : Nat) (dy : Nat) (cn : Nat) (tr : Nat) (ns : Nat) (nd : Nat) (nb : Nat) (nc : Nat) (nc0 : Nat) (nc1 : Nat) (nc2 : Nat) (nc3 : Nat) (nc4 : Nat) (nc5 : Nat) (nc6 : Nat) (nc7 : Nat) (nc8 : Nat) (nc9 : Nat) (a0 : Int32) (a1 : Int32) (sz : Nat) : Met l yX11_give (ws_u yX11_give cX11_give 4 (some .int)) ({ frames := 1, cells := 0, slots := 0, locals := 21 }) (va_Pc [.ref h0, .int a0, .int a1] (cPre (dC, dI) [] [(h0, .inr (11, [.ref tp, .ref cr, .ref rr, .ref ra, .int 0, .ref nw, .ref im, .ref ps, .ref po, .ref dy, .ref cn, .ref tr])), (nw, .inr (10, [.ref nc, .ref ns, .int (-1), .int 0, .int 0, .ref nd, .ref nb, .int 0])), (nc, .inr (0, [.int 0, .int 0, .int 0, .int 0, .int 0, .int 0, .ref nc0, .ref nc1, .ref nc2, .ref nc3, .ref nc4, .ref nc5, .ref nc6, .ref nc7, .ref nc8, .ref nc9]))] sz)) (va_Qi (fun (r : Int32) (_ : Unit) => r = (-1)) (fun _ _ => True) (va_A [(h0, .inr (11, [.ref tp, .ref cr, .ref rr, .ref ra, .int 0, .ref nw, .ref im, .ref ps, .ref po, .ref dy, .ref cn, .ref tr])), (nw, .inr (10, [.ref nc, .ref ns, .int (-1), .int 0, .int 0, .ref nd, .ref nb, .int 0])), (nc, .inr (0, [.int 0, .int 0, .int 0, .int 0, .int 0, .int 0, .ref nc0, .ref nc1, .ref nc2, .ref nc3, .ref nc4, .ref nc5, .ref nc6, .ref nc7, .ref nc8, .ref nc9]))] sz)) 0 0 (va_A [(h0, .inr (11, [.ref tp, .ref cr, .ref rr, .ref ra, .int 0, .ref nw, .ref im, .ref ps, .ref po, .ref dy, .ref cn, .ref tr])), (nw, .inr (10, [.ref nc, .ref ns, .int (-1), .int 0, .int 0, .ref nd, .ref nb, .int 0])), (nc, .inr (0, [.int 0, .int 0, .int 0, .int 0, .int 0, .int 0, .ref nc0, .ref nc1, .ref nc2, .ref nc3, .ref nc4, .ref nc5, .ref nc6, .ref nc7, .ref nc8, .ref nc9]))] sz) := by
  refine Met.ofW (cc := cX11_give) (maxL := 4) (ret := (some .int)) (by decide) rfl ?_
  intro p e s m args below meth c s₁ B hml hv
  obtain ⟨rfl, hsz, hP, hK, hD0, hE⟩ := hv
  have hx := B.exec
  have hb := B.bytes
  have hr := B.returns
  have hts0 := atoms_spec (ws := ws_u yX11_give cX11_give 4 (some .int)) B.pre
  have hts : ∀ w ∈ gT, w.before _ s = true := fun w h => hts0 w (List.mem_cons_of_mem _ h)
  have hown : s.vm.findClass RX11 = some m.cls := findClass_of_methodNamed B.named
  have hlocks := B.notSynchronized
  subst hsz
  have hD := hD0.self (sz := s.heap.size)
  generalize hAe : va_A [(h0, .inr (11, [.ref tp, .ref cr, .ref rr, .ref ra, .int 0, .ref nw, .ref im, .ref ps, .ref po, .ref dy, .ref cn, .ref tr])), (nw, .inr (10, [.ref nc, .ref ns, .int (-1), .int 0, .int 0, .ref nd, .ref nb, .int 0])), (nc, .inr (0, [.int 0, .int 0, .int 0, .int 0, .int 0, .int 0, .ref nc0, .ref nc1, .ref nc2, .ref nc3, .ref nc4, .ref nc5, .ref nc6, .ref nc7, .ref nc8, .ref nc9]))] s.heap.size = A at hD ⊢
  have hA : ∀ q : Nat, s.heap.size ≤ q → A q := fun q h => by rw [← hAe]; exact Or.inr h
  have hS : va_S A s.heap s.heap [] := va_S.rf
  have hl := lv_entry ([.ref h0, .int a0, .int a1]) (n := 4) (Nat.le_of_ble_eq_true rfl)
  rw [lg_entry_eq]
  generalize (lg_sl ([.ref h0, .int a0, .int a1]) ++ List.replicate (4 - (lg_sl ([.ref h0, .int a0, .int a1])).length) Slot.unset).toArray = ls at hl ⊢
  have hl : lv_has ls 4 [(0, .ref h0), (1, .int a0), (2, .int a1)] := hl
  have hP : va_P (dC, dI) vwCl [(h0, .inr (11, [.ref tp, .ref cr, .ref rr, .ref ra, .int 0, .ref nw, .ref im, .ref ps, .ref po, .ref dy, .ref cn, .ref tr])), (nw, .inr (10, [.ref nc, .ref ns, .int (-1), .int 0, .int 0, .ref nd, .ref nb, .int 0])), (nc, .inr (0, [.int 0, .int 0, .int 0, .int 0, .int 0, .int 0, .ref nc0, .ref nc1, .ref nc2, .ref nc3, .ref nc4, .ref nc5, .ref nc6, .ref nc7, .ref nc8, .ref nc9]))] s.heap := hP
  try clear hAe
  refine lv_aload_n hx hb dX11_give_0 rfl (lv_at hl 0 rfl) ?_
  refine va_get (D := (dC, dI)) (ci := 11) (v := .ref nw) (C := RX11) (T := TX11) (N := 12) hx hb hts iX11 hown hK hP 0 rfl rfl 5 (by decide) (hts _ tw_428) (fun _ h9 => h9) rfl dX11_give_1 ?_
  refine va_get (D := (dC, dI)) (ci := 10) (v := .ref ns) (C := RX10) (T := TX10) (N := 8) hx hb hts iX10 hown hK hP 1 rfl rfl 1 (by decide) (hts _ tw_285) (fun _ h9 => h9) rfl dX11_give_4 ?_
  refine lv_astore_n (lv' := [(3, .ref ns), (0, .ref h0), (1, .int a0), (2, .int a1)]) hx hb dX11_give_7 rfl hl (by decide) rfl (fun ls hl => ?_)
  refine lv_aload_n hx hb dX11_give_8 rfl (lv_at hl 1 rfl) ?_
  refine lv_iload_n hx hb dX11_give_9 rfl (lv_at hl 2 rfl) ?_
  have hPc := hP.sub (ws' := [(h0, .inr (11, [.ref tp, .ref cr, .ref rr, .ref ra, .int 0, .ref nw, .ref im, .ref ps, .ref po, .ref dy, .ref cn, .ref tr])), (nw, .inr (10, [.ref nc, .ref ns, .int (-1), .int 0, .int 0, .ref nd, .ref nb, .int 0])), (nc, .inr (0, [.int 0, .int 0, .int 0, .int 0, .int 0, .int 0, .ref nc0, .ref nc1, .ref nc2, .ref nc3, .ref nc4, .ref nc5, .ref nc6, .ref nc7, .ref nc8, .ref nc9]))]) [0, 1, 2] rfl
  have hDc := hD.sub (ws' := [(h0, .inr (11, [.ref tp, .ref cr, .ref rr, .ref ra, .int 0, .ref nw, .ref im, .ref ps, .ref po, .ref dy, .ref cn, .ref tr])), (nw, .inr (10, [.ref nc, .ref ns, .int (-1), .int 0, .int 0, .ref nd, .ref nb, .int 0])), (nc, .inr (0, [.int 0, .int 0, .int 0, .int 0, .int 0, .int 0, .ref nc0, .ref nc1, .ref nc2, .ref nc3, .ref nc4, .ref nc5, .ref nc6, .ref nc7, .ref nc8, .ref nc9]))]) [0, 1, 2] (by decide) rfl
  have hKc := hK.sub (tys' := []) [] rfl
  have hFc := va_free (wc := [(h0, .inr (11, [.ref tp, .ref cr, .ref rr, .ref ra, .int 0, .ref nw, .ref im, .ref ps, .ref po, .ref dy, .ref cn, .ref tr])), (nw, .inr (10, [.ref nc, .ref ns, .int (-1), .int 0, .int 0, .ref nd, .ref nb, .int 0])), (nc, .inr (0, [.int 0, .int 0, .int 0, .int 0, .int 0, .int 0, .ref nc0, .ref nc1, .ref nc2, .ref nc3, .ref nc4, .ref nc5, .ref nc6, .ref nc7, .ref nc8, .ref nc9]))]) hD hS hA [0, 1, 2] rfl
  refine va_calli (va_runV (As := [.int a0]) (rest := []) ⟨hx, hb, hml, hown, hts⟩ (c_isCanon l dC dI h0 tp cr rr ra nw im ps po dy cn tr ns nd nb nc nc0 nc1 nc2 nc3 nc4 nc5 nc6 nc7 nc8 nc9 a0  s.heap.size) (cwV 1 hts (gUV tw_722 tw_724 ts_1_0 tw_1 tw_725) rfl rfl rfl (by decide +kernel) ⟨(Nat.le_of_ble_eq_true rfl), (Nat.le_of_ble_eq_true rfl)⟩) ⟨cPre.blind, va_recv hKc hPc (ci := 11) (q0 := 0) rfl rfl, cPre.use hPc hKc hDc hE⟩ rfl rfl hl.1 rfl (lv_room (Nat.le_of_ble_eq_true rfl)) dX11_give_10 ⟨(Nat.le_of_ble_eq_true rfl), (Nat.le_of_ble_eq_true rfl)⟩) hS (fun q _ h => hFc q h) hFc (fun r_1 u t H1 locs ht hvm hw hB hz1 hk1 hS => ?_)
  obtain ⟨hP1, hK1, hD1⟩ := hB
  rw [ht] at hP1
  obtain ⟨hP, hD⟩ := va_join (wr := []) (w1 := [(h0, .inr (11, [.ref tp, .ref cr, .ref rr, .ref ra, .int 0, .ref nw, .ref im, .ref ps, .ref po, .ref dy, .ref cn, .ref tr])), (nw, .inr (10, [.ref nc, .ref ns, .int (-1), .int 0, .int 0, .ref nd, .ref nb, .int 0])), (nc, .inr (0, [.int 0, .int 0, .int 0, .int 0, .int 0, .int 0, .ref nc0, .ref nc1, .ref nc2, .ref nc3, .ref nc4, .ref nc5, .ref nc6, .ref nc7, .ref nc8, .ref nc9]))]) hP hD [0, 1, 2] [] rfl rfl (by decide) (by decide) hk1 hFc hP1 hD1
  generalize H1 = H at hP hS ⊢
  have hP : va_P (dC, dI) vwCl [(h0, .inr (11, [.ref tp, .ref cr, .ref rr, .ref ra, .int 0, .ref nw, .ref im, .ref ps, .ref po, .ref dy, .ref cn, .ref tr])), (nw, .inr (10, [.ref nc, .ref ns, .int (-1), .int 0, .int 0, .ref nd, .ref nb, .int 0])), (nc, .inr (0, [.int 0, .int 0, .int 0, .int 0, .int 0, .int 0, .ref nc0, .ref nc1, .ref nc2, .ref nc3, .ref nc4, .ref nc5, .ref nc6, .ref nc7, .ref nc8, .ref nc9]))] H := hP
  have hD : va_D A [(h0, .inr (11, [.ref tp, .ref cr, .ref rr, .ref ra, .int 0, .ref nw, .ref im, .ref ps, .ref po, .ref dy, .ref cn, .ref tr])), (nw, .inr (10, [.ref nc, .ref ns, .int (-1), .int 0, .int 0, .ref nd, .ref nb, .int 0])), (nc, .inr (0, [.int 0, .int 0, .int 0, .int 0, .int 0, .int 0, .ref nc0, .ref nc1, .ref nc2, .ref nc3, .ref nc4, .ref nc5, .ref nc6, .ref nc7, .ref nc8, .ref nc9]))] := hD
  obtain rfl : r_1 = 0 := hw
  refine lv_if_eq (tgt := 43) hx hb dX11_give_13 (by decide) (fun c_2 => ?_) (fun c_2 => absurd (by decide) c_2)
  refine lv_iconst (v := (-1)) hx hb dX11_give_43 (by decide) ?_
  refine W.widen (k := 0) (n := 0) (Nat.le_of_ble_eq_true rfl) (Nat.le_of_ble_eq_true rfl) ?_
  exact W.iret (v := (-1)) hx hb hr (fun t ht hW => ⟨⟨(-1), (), rfl, rfl, trivial⟩, hS.F ht⟩) hS.2.2 dX11_give_44
set_option maxHeartbeats 4000000 in
set_option maxRecDepth 100000 in
theorem c_breaks (l : Launch) (dC : Nat → ClassId) (dI : Nat → Nat → Nat) (h0 : Nat) (tp : Nat) (cr : Nat) (rr : Nat) (ra : Nat) (nw : Nat) (im : Nat) (ps : Nat) (po : Nat) (dy : Nat) (cn : Nat) (tr : Nat) (ns : Nat) (nd : Nat) (nb : Nat) (nc : Nat) (nc0 : Nat) (nc1 : Nat) (nc2 : Nat) (nc3 : Nat) (nc4 : Nat) (nc5 : Nat) (nc6 : Nat) (nc7 : Nat) (nc8 : Nat) (nc9 : Nat) (a0 : Int32) (sz : Nat) : Met l yX11_breaks (ws_u yX11_breaks cX11_breaks 3 (some .int)) ({ frames := 2, cells := 0, slots := 0, locals := 42 }) (va_Pc [.ref h0, .int a0] (cPre (dC, dI) [] [(h0, .inr (11, [.ref tp, .ref cr, .ref rr, .ref ra, .int 0, .ref nw, .ref im, .ref ps, .ref po, .ref dy, .ref cn, .ref tr])), (nw, .inr (10, [.ref nc, .ref ns, .int (-1), .int 0, .int 0, .ref nd, .ref nb, .int 0])), (nc, .inr (0, [.int 0, .int 0, .int 0, .int 0, .int 0, .int 0, .ref nc0, .ref nc1, .ref nc2, .ref nc3, .ref nc4, .ref nc5, .ref nc6, .ref nc7, .ref nc8, .ref nc9]))] sz)) (va_Qi (fun (r : Int32) (_ : Unit) => r = (-1)) (fun _ _ => True) (va_A [(h0, .inr (11, [.ref tp, .ref cr, .ref rr, .ref ra, .int 0, .ref nw, .ref im, .ref ps, .ref po, .ref dy, .ref cn, .ref tr])), (nw, .inr (10, [.ref nc, .ref ns, .int (-1), .int 0, .int 0, .ref nd, .ref nb, .int 0])), (nc, .inr (0, [.int 0, .int 0, .int 0, .int 0, .int 0, .int 0, .ref nc0, .ref nc1, .ref nc2, .ref nc3, .ref nc4, .ref nc5, .ref nc6, .ref nc7, .ref nc8, .ref nc9]))] sz)) 0 0 (va_A [(h0, .inr (11, [.ref tp, .ref cr, .ref rr, .ref ra, .int 0, .ref nw, .ref im, .ref ps, .ref po, .ref dy, .ref cn, .ref tr])), (nw, .inr (10, [.ref nc, .ref ns, .int (-1), .int 0, .int 0, .ref nd, .ref nb, .int 0])), (nc, .inr (0, [.int 0, .int 0, .int 0, .int 0, .int 0, .int 0, .ref nc0, .ref nc1, .ref nc2, .ref nc3, .ref nc4, .ref nc5, .ref nc6, .ref nc7, .ref nc8, .ref nc9]))] sz) := by
  refine Met.ofW (cc := cX11_breaks) (maxL := 3) (ret := (some .int)) (by decide) rfl ?_
  intro p e s m args below meth c s₁ B hml hv
  obtain ⟨rfl, hsz, hP, hK, hD0, hE⟩ := hv
  have hx := B.exec
  have hb := B.bytes
  have hr := B.returns
  have hts0 := atoms_spec (ws := ws_u yX11_breaks cX11_breaks 3 (some .int)) B.pre
  have hts : ∀ w ∈ gT, w.before _ s = true := fun w h => hts0 w (List.mem_cons_of_mem _ h)
  have hown : s.vm.findClass RX11 = some m.cls := findClass_of_methodNamed B.named
  have hlocks := B.notSynchronized
  subst hsz
  have hD := hD0.self (sz := s.heap.size)
  generalize hAe : va_A [(h0, .inr (11, [.ref tp, .ref cr, .ref rr, .ref ra, .int 0, .ref nw, .ref im, .ref ps, .ref po, .ref dy, .ref cn, .ref tr])), (nw, .inr (10, [.ref nc, .ref ns, .int (-1), .int 0, .int 0, .ref nd, .ref nb, .int 0])), (nc, .inr (0, [.int 0, .int 0, .int 0, .int 0, .int 0, .int 0, .ref nc0, .ref nc1, .ref nc2, .ref nc3, .ref nc4, .ref nc5, .ref nc6, .ref nc7, .ref nc8, .ref nc9]))] s.heap.size = A at hD ⊢
  have hA : ∀ q : Nat, s.heap.size ≤ q → A q := fun q h => by rw [← hAe]; exact Or.inr h
  have hS : va_S A s.heap s.heap [] := va_S.rf
  have hl := lv_entry ([.ref h0, .int a0]) (n := 3) (Nat.le_of_ble_eq_true rfl)
  rw [lg_entry_eq]
  generalize (lg_sl ([.ref h0, .int a0]) ++ List.replicate (3 - (lg_sl ([.ref h0, .int a0])).length) Slot.unset).toArray = ls at hl ⊢
  have hl : lv_has ls 3 [(0, .ref h0), (1, .int a0)] := hl
  have hP : va_P (dC, dI) vwCl [(h0, .inr (11, [.ref tp, .ref cr, .ref rr, .ref ra, .int 0, .ref nw, .ref im, .ref ps, .ref po, .ref dy, .ref cn, .ref tr])), (nw, .inr (10, [.ref nc, .ref ns, .int (-1), .int 0, .int 0, .ref nd, .ref nb, .int 0])), (nc, .inr (0, [.int 0, .int 0, .int 0, .int 0, .int 0, .int 0, .ref nc0, .ref nc1, .ref nc2, .ref nc3, .ref nc4, .ref nc5, .ref nc6, .ref nc7, .ref nc8, .ref nc9]))] s.heap := hP
  try clear hAe
  refine lv_aload_n hx hb dX11_breaks_0 rfl (lv_at hl 0 rfl) ?_
  refine lv_iload_n hx hb dX11_breaks_1 rfl (lv_at hl 1 rfl) ?_
  have hPc := hP.sub (ws' := [(h0, .inr (11, [.ref tp, .ref cr, .ref rr, .ref ra, .int 0, .ref nw, .ref im, .ref ps, .ref po, .ref dy, .ref cn, .ref tr])), (nw, .inr (10, [.ref nc, .ref ns, .int (-1), .int 0, .int 0, .ref nd, .ref nb, .int 0])), (nc, .inr (0, [.int 0, .int 0, .int 0, .int 0, .int 0, .int 0, .ref nc0, .ref nc1, .ref nc2, .ref nc3, .ref nc4, .ref nc5, .ref nc6, .ref nc7, .ref nc8, .ref nc9]))]) [0, 1, 2] rfl
  have hDc := hD.sub (ws' := [(h0, .inr (11, [.ref tp, .ref cr, .ref rr, .ref ra, .int 0, .ref nw, .ref im, .ref ps, .ref po, .ref dy, .ref cn, .ref tr])), (nw, .inr (10, [.ref nc, .ref ns, .int (-1), .int 0, .int 0, .ref nd, .ref nb, .int 0])), (nc, .inr (0, [.int 0, .int 0, .int 0, .int 0, .int 0, .int 0, .ref nc0, .ref nc1, .ref nc2, .ref nc3, .ref nc4, .ref nc5, .ref nc6, .ref nc7, .ref nc8, .ref nc9]))]) [0, 1, 2] (by decide) rfl
  have hKc := hK.sub (tys' := []) [] rfl
  have hFc := va_free (wc := [(h0, .inr (11, [.ref tp, .ref cr, .ref rr, .ref ra, .int 0, .ref nw, .ref im, .ref ps, .ref po, .ref dy, .ref cn, .ref tr])), (nw, .inr (10, [.ref nc, .ref ns, .int (-1), .int 0, .int 0, .ref nd, .ref nb, .int 0])), (nc, .inr (0, [.int 0, .int 0, .int 0, .int 0, .int 0, .int 0, .ref nc0, .ref nc1, .ref nc2, .ref nc3, .ref nc4, .ref nc5, .ref nc6, .ref nc7, .ref nc8, .ref nc9]))]) hD hS hA [0, 1, 2] rfl
  refine va_calli (va_runV (As := [.int a0]) (rest := []) ⟨hx, hb, hml, hown, hts⟩ (c_isSinging l dC dI h0 tp cr rr ra nw im ps po dy cn tr ns nd nb nc nc0 nc1 nc2 nc3 nc4 nc5 nc6 nc7 nc8 nc9 a0  s.heap.size) (cwV 1 hts (gUV tw_878 tw_880 ts_1_15 tw_1 tw_881) rfl rfl rfl (by decide +kernel) ⟨(Nat.le_of_ble_eq_true rfl), (Nat.le_of_ble_eq_true rfl)⟩) ⟨cPre.blind, va_recv hKc hPc (ci := 11) (q0 := 0) rfl rfl, cPre.use hPc hKc hDc hE⟩ rfl rfl hl.1 rfl (lv_room (Nat.le_of_ble_eq_true rfl)) dX11_breaks_2 ⟨(Nat.le_of_ble_eq_true rfl), (Nat.le_of_ble_eq_true rfl)⟩) hS (fun q _ h => hFc q h) hFc (fun r_1 u t H1 locs ht hvm hw hB hz1 hk1 hS => ?_)
  obtain ⟨hP1, hK1, hD1⟩ := hB
  rw [ht] at hP1
  obtain ⟨hP, hD⟩ := va_join (wr := []) (w1 := [(h0, .inr (11, [.ref tp, .ref cr, .ref rr, .ref ra, .int 0, .ref nw, .ref im, .ref ps, .ref po, .ref dy, .ref cn, .ref tr])), (nw, .inr (10, [.ref nc, .ref ns, .int (-1), .int 0, .int 0, .ref nd, .ref nb, .int 0])), (nc, .inr (0, [.int 0, .int 0, .int 0, .int 0, .int 0, .int 0, .ref nc0, .ref nc1, .ref nc2, .ref nc3, .ref nc4, .ref nc5, .ref nc6, .ref nc7, .ref nc8, .ref nc9]))]) hP hD [0, 1, 2] [] rfl rfl (by decide) (by decide) hk1 hFc hP1 hD1
  generalize H1 = H at hP hS ⊢
  have hP : va_P (dC, dI) vwCl [(h0, .inr (11, [.ref tp, .ref cr, .ref rr, .ref ra, .int 0, .ref nw, .ref im, .ref ps, .ref po, .ref dy, .ref cn, .ref tr])), (nw, .inr (10, [.ref nc, .ref ns, .int (-1), .int 0, .int 0, .ref nd, .ref nb, .int 0])), (nc, .inr (0, [.int 0, .int 0, .int 0, .int 0, .int 0, .int 0, .ref nc0, .ref nc1, .ref nc2, .ref nc3, .ref nc4, .ref nc5, .ref nc6, .ref nc7, .ref nc8, .ref nc9]))] H := hP
  have hD : va_D A [(h0, .inr (11, [.ref tp, .ref cr, .ref rr, .ref ra, .int 0, .ref nw, .ref im, .ref ps, .ref po, .ref dy, .ref cn, .ref tr])), (nw, .inr (10, [.ref nc, .ref ns, .int (-1), .int 0, .int 0, .ref nd, .ref nb, .int 0])), (nc, .inr (0, [.int 0, .int 0, .int 0, .int 0, .int 0, .int 0, .ref nc0, .ref nc1, .ref nc2, .ref nc3, .ref nc4, .ref nc5, .ref nc6, .ref nc7, .ref nc8, .ref nc9]))] := hD
  obtain rfl : r_1 = 0 := hw
  refine lv_if_ne (tgt := 10) hx hb dX11_breaks_5 (by decide) (fun c_2 => absurd (by decide) c_2) (fun c_2 => ?_)
  refine lv_iconst (v := (-1)) hx hb dX11_breaks_8 (by decide) ?_
  refine W.widen (k := 0) (n := 0) (Nat.le_of_ble_eq_true rfl) (Nat.le_of_ble_eq_true rfl) ?_
  exact W.iret (v := (-1)) hx hb hr (fun t ht hW => ⟨⟨(-1), (), rfl, rfl, trivial⟩, hS.F ht⟩) hS.2.2 dX11_breaks_9
set_option maxHeartbeats 4000000 in
set_option maxRecDepth 100000 in
theorem c_ahead (l : Launch) (dC : Nat → ClassId) (dI : Nat → Nat → Nat) (h0 : Nat) (tp : Nat) (cr : Nat) (rr : Nat) (ra : Nat) (nw : Nat) (im : Nat) (ps : Nat) (po : Nat) (dy : Nat) (cn : Nat) (tr : Nat) (ns : Nat) (nd : Nat) (nb : Nat) (nc : Nat) (nc0 : Nat) (nc1 : Nat) (nc2 : Nat) (nc3 : Nat) (nc4 : Nat) (nc5 : Nat) (nc6 : Nat) (nc7 : Nat) (nc8 : Nat) (nc9 : Nat) (a0 : Int32) (a1 : Int32) (a2 : Int32) (sz : Nat) : Met l yX11_ahead (ws_u yX11_ahead cX11_ahead 5 (some .int)) ({ frames := 0, cells := 0, slots := 0, locals := 0 }) (va_Pc [.ref h0, .int a0, .int a1, .int a2] (cPre (dC, dI) [] [(h0, .inr (11, [.ref tp, .ref cr, .ref rr, .ref ra, .int 0, .ref nw, .ref im, .ref ps, .ref po, .ref dy, .ref cn, .ref tr])), (nw, .inr (10, [.ref nc, .ref ns, .int (-1), .int 0, .int 0, .ref nd, .ref nb, .int 0])), (nc, .inr (0, [.int 0, .int 0, .int 0, .int 0, .int 0, .int 0, .ref nc0, .ref nc1, .ref nc2, .ref nc3, .ref nc4, .ref nc5, .ref nc6, .ref nc7, .ref nc8, .ref nc9]))] sz)) (va_Qi (fun (r : Int32) (_ : Unit) => r = (-2)) (fun _ _ => True) (va_A [(h0, .inr (11, [.ref tp, .ref cr, .ref rr, .ref ra, .int 0, .ref nw, .ref im, .ref ps, .ref po, .ref dy, .ref cn, .ref tr])), (nw, .inr (10, [.ref nc, .ref ns, .int (-1), .int 0, .int 0, .ref nd, .ref nb, .int 0])), (nc, .inr (0, [.int 0, .int 0, .int 0, .int 0, .int 0, .int 0, .ref nc0, .ref nc1, .ref nc2, .ref nc3, .ref nc4, .ref nc5, .ref nc6, .ref nc7, .ref nc8, .ref nc9]))] sz)) 0 0 (va_A [(h0, .inr (11, [.ref tp, .ref cr, .ref rr, .ref ra, .int 0, .ref nw, .ref im, .ref ps, .ref po, .ref dy, .ref cn, .ref tr])), (nw, .inr (10, [.ref nc, .ref ns, .int (-1), .int 0, .int 0, .ref nd, .ref nb, .int 0])), (nc, .inr (0, [.int 0, .int 0, .int 0, .int 0, .int 0, .int 0, .ref nc0, .ref nc1, .ref nc2, .ref nc3, .ref nc4, .ref nc5, .ref nc6, .ref nc7, .ref nc8, .ref nc9]))] sz) := by
  refine Met.ofW (cc := cX11_ahead) (maxL := 5) (ret := (some .int)) (by decide) rfl ?_
  intro p e s m args below meth c s₁ B hml hv
  obtain ⟨rfl, hsz, hP, hK, hD0, hE⟩ := hv
  have hx := B.exec
  have hb := B.bytes
  have hr := B.returns
  have hts0 := atoms_spec (ws := ws_u yX11_ahead cX11_ahead 5 (some .int)) B.pre
  have hts : ∀ w ∈ gT, w.before _ s = true := fun w h => hts0 w (List.mem_cons_of_mem _ h)
  have hown : s.vm.findClass RX11 = some m.cls := findClass_of_methodNamed B.named
  have hlocks := B.notSynchronized
  subst hsz
  have hD := hD0.self (sz := s.heap.size)
  generalize hAe : va_A [(h0, .inr (11, [.ref tp, .ref cr, .ref rr, .ref ra, .int 0, .ref nw, .ref im, .ref ps, .ref po, .ref dy, .ref cn, .ref tr])), (nw, .inr (10, [.ref nc, .ref ns, .int (-1), .int 0, .int 0, .ref nd, .ref nb, .int 0])), (nc, .inr (0, [.int 0, .int 0, .int 0, .int 0, .int 0, .int 0, .ref nc0, .ref nc1, .ref nc2, .ref nc3, .ref nc4, .ref nc5, .ref nc6, .ref nc7, .ref nc8, .ref nc9]))] s.heap.size = A at hD ⊢
  have hA : ∀ q : Nat, s.heap.size ≤ q → A q := fun q h => by rw [← hAe]; exact Or.inr h
  have hS : va_S A s.heap s.heap [] := va_S.rf
  have hl := lv_entry ([.ref h0, .int a0, .int a1, .int a2]) (n := 5) (Nat.le_of_ble_eq_true rfl)
  rw [lg_entry_eq]
  generalize (lg_sl ([.ref h0, .int a0, .int a1, .int a2]) ++ List.replicate (5 - (lg_sl ([.ref h0, .int a0, .int a1, .int a2])).length) Slot.unset).toArray = ls at hl ⊢
  have hl : lv_has ls 5 [(0, .ref h0), (1, .int a0), (2, .int a1), (3, .int a2)] := hl
  have hP : va_P (dC, dI) vwCl [(h0, .inr (11, [.ref tp, .ref cr, .ref rr, .ref ra, .int 0, .ref nw, .ref im, .ref ps, .ref po, .ref dy, .ref cn, .ref tr])), (nw, .inr (10, [.ref nc, .ref ns, .int (-1), .int 0, .int 0, .ref nd, .ref nb, .int 0])), (nc, .inr (0, [.int 0, .int 0, .int 0, .int 0, .int 0, .int 0, .ref nc0, .ref nc1, .ref nc2, .ref nc3, .ref nc4, .ref nc5, .ref nc6, .ref nc7, .ref nc8, .ref nc9]))] s.heap := hP
  try clear hAe
  refine lv_aload_n hx hb dX11_ahead_0 rfl (lv_at hl 0 rfl) ?_
  refine va_get (D := (dC, dI)) (ci := 11) (v := .ref nw) (C := RX11) (T := TX11) (N := 12) hx hb hts iX11 hown hK hP 0 rfl rfl 5 (by decide) (hts _ tw_428) (fun _ h9 => h9) rfl dX11_ahead_1 ?_
  refine va_get (D := (dC, dI)) (ci := 10) (v := .ref nc) (C := RX10) (T := TX10) (N := 8) hx hb hts iX10 hown hK hP 1 rfl rfl 0 (by decide) (hts _ tw_282) (fun _ h9 => h9) rfl dX11_ahead_4 ?_
  refine va_get (D := (dC, dI)) (ci := 0) (v := .int 0) (C := RX0) (T := TX0) (N := 16) hx hb hts iX0 hown hK hP 2 rfl rfl 0 (by decide) (hts _ tw_69) (fun _ h9 => h9) rfl dX11_ahead_7 ?_
  refine lv_if_eq (tgt := 32) hx hb dX11_ahead_10 (by decide) (fun c_1 => ?_) (fun c_1 => absurd (by decide) c_1)
  refine lv_bipush (v := (-2)) hx hb dX11_ahead_32 (by decide) ?_
  refine W.widen (k := 0) (n := 0) (Nat.le_of_ble_eq_true rfl) (Nat.le_of_ble_eq_true rfl) ?_
  exact W.iret (v := (-2)) hx hb hr (fun t ht hW => ⟨⟨(-2), (), rfl, rfl, trivial⟩, hS.F ht⟩) hS.2.2 dX11_ahead_34
set_option maxHeartbeats 4000000 in
set_option maxRecDepth 100000 in
theorem c_votes (l : Launch) (dC : Nat → ClassId) (dI : Nat → Nat → Nat) (h0 : Nat) (tp : Nat) (cr : Nat) (rr : Nat) (ra : Nat) (nw : Nat) (im : Nat) (ps : Nat) (po : Nat) (dy : Nat) (cn : Nat) (tr : Nat) (ns : Nat) (nd : Nat) (nb : Nat) (nc : Nat) (nc0 : Nat) (nc1 : Nat) (nc2 : Nat) (nc3 : Nat) (nc4 : Nat) (nc5 : Nat) (nc6 : Nat) (nc7 : Nat) (nc8 : Nat) (nc9 : Nat) (a0 : Int32) (a1 : Int32) (sz : Nat) : Met l yX11_votes (ws_u yX11_votes cX11_votes 3 (some .int)) ({ frames := 0, cells := 0, slots := 0, locals := 0 }) (va_Pc [.ref h0, .int a0, .int a1] (cPre (dC, dI) [] [(h0, .inr (11, [.ref tp, .ref cr, .ref rr, .ref ra, .int 0, .ref nw, .ref im, .ref ps, .ref po, .ref dy, .ref cn, .ref tr])), (nw, .inr (10, [.ref nc, .ref ns, .int (-1), .int 0, .int 0, .ref nd, .ref nb, .int 0])), (nc, .inr (0, [.int 0, .int 0, .int 0, .int 0, .int 0, .int 0, .ref nc0, .ref nc1, .ref nc2, .ref nc3, .ref nc4, .ref nc5, .ref nc6, .ref nc7, .ref nc8, .ref nc9]))] sz)) (va_Qi (fun (r : Int32) (_ : Unit) => r = (-2)) (fun _ _ => True) (va_A [(h0, .inr (11, [.ref tp, .ref cr, .ref rr, .ref ra, .int 0, .ref nw, .ref im, .ref ps, .ref po, .ref dy, .ref cn, .ref tr])), (nw, .inr (10, [.ref nc, .ref ns, .int (-1), .int 0, .int 0, .ref nd, .ref nb, .int 0])), (nc, .inr (0, [.int 0, .int 0, .int 0, .int 0, .int 0, .int 0, .ref nc0, .ref nc1, .ref nc2, .ref nc3, .ref nc4, .ref nc5, .ref nc6, .ref nc7, .ref nc8, .ref nc9]))] sz)) 0 0 (va_A [(h0, .inr (11, [.ref tp, .ref cr, .ref rr, .ref ra, .int 0, .ref nw, .ref im, .ref ps, .ref po, .ref dy, .ref cn, .ref tr])), (nw, .inr (10, [.ref nc, .ref ns, .int (-1), .int 0, .int 0, .ref nd, .ref nb, .int 0])), (nc, .inr (0, [.int 0, .int 0, .int 0, .int 0, .int 0, .int 0, .ref nc0, .ref nc1, .ref nc2, .ref nc3, .ref nc4, .ref nc5, .ref nc6, .ref nc7, .ref nc8, .ref nc9]))] sz) := by
  refine Met.ofW (cc := cX11_votes) (maxL := 3) (ret := (some .int)) (by decide) rfl ?_
  intro p e s m args below meth c s₁ B hml hv
  obtain ⟨rfl, hsz, hP, hK, hD0, hE⟩ := hv
  have hx := B.exec
  have hb := B.bytes
  have hr := B.returns
  have hts0 := atoms_spec (ws := ws_u yX11_votes cX11_votes 3 (some .int)) B.pre
  have hts : ∀ w ∈ gT, w.before _ s = true := fun w h => hts0 w (List.mem_cons_of_mem _ h)
  have hown : s.vm.findClass RX11 = some m.cls := findClass_of_methodNamed B.named
  have hlocks := B.notSynchronized
  subst hsz
  have hD := hD0.self (sz := s.heap.size)
  generalize hAe : va_A [(h0, .inr (11, [.ref tp, .ref cr, .ref rr, .ref ra, .int 0, .ref nw, .ref im, .ref ps, .ref po, .ref dy, .ref cn, .ref tr])), (nw, .inr (10, [.ref nc, .ref ns, .int (-1), .int 0, .int 0, .ref nd, .ref nb, .int 0])), (nc, .inr (0, [.int 0, .int 0, .int 0, .int 0, .int 0, .int 0, .ref nc0, .ref nc1, .ref nc2, .ref nc3, .ref nc4, .ref nc5, .ref nc6, .ref nc7, .ref nc8, .ref nc9]))] s.heap.size = A at hD ⊢
  have hA : ∀ q : Nat, s.heap.size ≤ q → A q := fun q h => by rw [← hAe]; exact Or.inr h
  have hS : va_S A s.heap s.heap [] := va_S.rf
  have hl := lv_entry ([.ref h0, .int a0, .int a1]) (n := 3) (Nat.le_of_ble_eq_true rfl)
  rw [lg_entry_eq]
  generalize (lg_sl ([.ref h0, .int a0, .int a1]) ++ List.replicate (3 - (lg_sl ([.ref h0, .int a0, .int a1])).length) Slot.unset).toArray = ls at hl ⊢
  have hl : lv_has ls 3 [(0, .ref h0), (1, .int a0), (2, .int a1)] := hl
  have hP : va_P (dC, dI) vwCl [(h0, .inr (11, [.ref tp, .ref cr, .ref rr, .ref ra, .int 0, .ref nw, .ref im, .ref ps, .ref po, .ref dy, .ref cn, .ref tr])), (nw, .inr (10, [.ref nc, .ref ns, .int (-1), .int 0, .int 0, .ref nd, .ref nb, .int 0])), (nc, .inr (0, [.int 0, .int 0, .int 0, .int 0, .int 0, .int 0, .ref nc0, .ref nc1, .ref nc2, .ref nc3, .ref nc4, .ref nc5, .ref nc6, .ref nc7, .ref nc8, .ref nc9]))] s.heap := hP
  try clear hAe
  refine lv_aload_n hx hb dX11_votes_0 rfl (lv_at hl 0 rfl) ?_
  refine va_get (D := (dC, dI)) (ci := 11) (v := .ref nw) (C := RX11) (T := TX11) (N := 12) hx hb hts iX11 hown hK hP 0 rfl rfl 5 (by decide) (hts _ tw_428) (fun _ h9 => h9) rfl dX11_votes_1 ?_
  refine va_get (D := (dC, dI)) (ci := 10) (v := .ref nc) (C := RX10) (T := TX10) (N := 8) hx hb hts iX10 hown hK hP 1 rfl rfl 0 (by decide) (hts _ tw_282) (fun _ h9 => h9) rfl dX11_votes_4 ?_
  refine va_get (D := (dC, dI)) (ci := 0) (v := .int 0) (C := RX0) (T := TX0) (N := 16) hx hb hts iX0 hown hK hP 2 rfl rfl 0 (by decide) (hts _ tw_69) (fun _ h9 => h9) rfl dX11_votes_7 ?_
  refine lv_if_eq (tgt := 35) hx hb dX11_votes_10 (by decide) (fun c_1 => ?_) (fun c_1 => absurd (by decide) c_1)
  refine lv_bipush (v := (-2)) hx hb dX11_votes_35 (by decide) ?_
  refine W.widen (k := 0) (n := 0) (Nat.le_of_ble_eq_true rfl) (Nat.le_of_ble_eq_true rfl) ?_
  exact W.iret (v := (-2)) hx hb hr (fun t ht hW => ⟨⟨(-2), (), rfl, rfl, trivial⟩, hS.F ht⟩) hS.2.2 dX11_votes_37
set_option maxHeartbeats 4000000 in
set_option maxRecDepth 100000 in
theorem c_method (l : Launch) (dC : Nat → ClassId) (dI : Nat → Nat → Nat) (h0 : Nat) (tp : Nat) (cr : Nat) (rr : Nat) (ra : Nat) (nw : Nat) (im : Nat) (ps : Nat) (po : Nat) (dy : Nat) (cn : Nat) (tr : Nat) (ns : Nat) (nd : Nat) (nb : Nat) (nc : Nat) (nc0 : Nat) (nc1 : Nat) (nc2 : Nat) (nc3 : Nat) (nc4 : Nat) (nc5 : Nat) (nc6 : Nat) (nc7 : Nat) (nc8 : Nat) (nc9 : Nat) (a0 : Int32) (sz : Nat) : Met l yX11_method (ws_u yX11_method cX11_method 2 (some .int)) ({ frames := 0, cells := 0, slots := 0, locals := 0 }) (va_Pc [.ref h0, .int a0] (cPre (dC, dI) [] [(h0, .inr (11, [.ref tp, .ref cr, .ref rr, .ref ra, .int 0, .ref nw, .ref im, .ref ps, .ref po, .ref dy, .ref cn, .ref tr])), (nw, .inr (10, [.ref nc, .ref ns, .int (-1), .int 0, .int 0, .ref nd, .ref nb, .int 0])), (nc, .inr (0, [.int 0, .int 0, .int 0, .int 0, .int 0, .int 0, .ref nc0, .ref nc1, .ref nc2, .ref nc3, .ref nc4, .ref nc5, .ref nc6, .ref nc7, .ref nc8, .ref nc9]))] sz)) (va_Qi (fun (r : Int32) (_ : Unit) => r = (-2)) (fun _ _ => True) (va_A [(h0, .inr (11, [.ref tp, .ref cr, .ref rr, .ref ra, .int 0, .ref nw, .ref im, .ref ps, .ref po, .ref dy, .ref cn, .ref tr])), (nw, .inr (10, [.ref nc, .ref ns, .int (-1), .int 0, .int 0, .ref nd, .ref nb, .int 0])), (nc, .inr (0, [.int 0, .int 0, .int 0, .int 0, .int 0, .int 0, .ref nc0, .ref nc1, .ref nc2, .ref nc3, .ref nc4, .ref nc5, .ref nc6, .ref nc7, .ref nc8, .ref nc9]))] sz)) 0 0 (va_A [(h0, .inr (11, [.ref tp, .ref cr, .ref rr, .ref ra, .int 0, .ref nw, .ref im, .ref ps, .ref po, .ref dy, .ref cn, .ref tr])), (nw, .inr (10, [.ref nc, .ref ns, .int (-1), .int 0, .int 0, .ref nd, .ref nb, .int 0])), (nc, .inr (0, [.int 0, .int 0, .int 0, .int 0, .int 0, .int 0, .ref nc0, .ref nc1, .ref nc2, .ref nc3, .ref nc4, .ref nc5, .ref nc6, .ref nc7, .ref nc8, .ref nc9]))] sz) := by
  refine Met.ofW (cc := cX11_method) (maxL := 2) (ret := (some .int)) (by decide) rfl ?_
  intro p e s m args below meth c s₁ B hml hv
  obtain ⟨rfl, hsz, hP, hK, hD0, hE⟩ := hv
  have hx := B.exec
  have hb := B.bytes
  have hr := B.returns
  have hts0 := atoms_spec (ws := ws_u yX11_method cX11_method 2 (some .int)) B.pre
  have hts : ∀ w ∈ gT, w.before _ s = true := fun w h => hts0 w (List.mem_cons_of_mem _ h)
  have hown : s.vm.findClass RX11 = some m.cls := findClass_of_methodNamed B.named
  have hlocks := B.notSynchronized
  subst hsz
  have hD := hD0.self (sz := s.heap.size)
  generalize hAe : va_A [(h0, .inr (11, [.ref tp, .ref cr, .ref rr, .ref ra, .int 0, .ref nw, .ref im, .ref ps, .ref po, .ref dy, .ref cn, .ref tr])), (nw, .inr (10, [.ref nc, .ref ns, .int (-1), .int 0, .int 0, .ref nd, .ref nb, .int 0])), (nc, .inr (0, [.int 0, .int 0, .int 0, .int 0, .int 0, .int 0, .ref nc0, .ref nc1, .ref nc2, .ref nc3, .ref nc4, .ref nc5, .ref nc6, .ref nc7, .ref nc8, .ref nc9]))] s.heap.size = A at hD ⊢
  have hA : ∀ q : Nat, s.heap.size ≤ q → A q := fun q h => by rw [← hAe]; exact Or.inr h
  have hS : va_S A s.heap s.heap [] := va_S.rf
  have hl := lv_entry ([.ref h0, .int a0]) (n := 2) (Nat.le_of_ble_eq_true rfl)
  rw [lg_entry_eq]
  generalize (lg_sl ([.ref h0, .int a0]) ++ List.replicate (2 - (lg_sl ([.ref h0, .int a0])).length) Slot.unset).toArray = ls at hl ⊢
  have hl : lv_has ls 2 [(0, .ref h0), (1, .int a0)] := hl
  have hP : va_P (dC, dI) vwCl [(h0, .inr (11, [.ref tp, .ref cr, .ref rr, .ref ra, .int 0, .ref nw, .ref im, .ref ps, .ref po, .ref dy, .ref cn, .ref tr])), (nw, .inr (10, [.ref nc, .ref ns, .int (-1), .int 0, .int 0, .ref nd, .ref nb, .int 0])), (nc, .inr (0, [.int 0, .int 0, .int 0, .int 0, .int 0, .int 0, .ref nc0, .ref nc1, .ref nc2, .ref nc3, .ref nc4, .ref nc5, .ref nc6, .ref nc7, .ref nc8, .ref nc9]))] s.heap := hP
  try clear hAe
  refine lv_aload_n hx hb dX11_method_0 rfl (lv_at hl 0 rfl) ?_
  refine va_get (D := (dC, dI)) (ci := 11) (v := .ref nw) (C := RX11) (T := TX11) (N := 12) hx hb hts iX11 hown hK hP 0 rfl rfl 5 (by decide) (hts _ tw_428) (fun _ h9 => h9) rfl dX11_method_1 ?_
  refine va_get (D := (dC, dI)) (ci := 10) (v := .ref nc) (C := RX10) (T := TX10) (N := 8) hx hb hts iX10 hown hK hP 1 rfl rfl 0 (by decide) (hts _ tw_282) (fun _ h9 => h9) rfl dX11_method_4 ?_
  refine va_get (D := (dC, dI)) (ci := 0) (v := .int 0) (C := RX0) (T := TX0) (N := 16) hx hb hts iX0 hown hK hP 2 rfl rfl 0 (by decide) (hts _ tw_69) (fun _ h9 => h9) rfl dX11_method_7 ?_
  refine lv_if_eq (tgt := 22) hx hb dX11_method_10 (by decide) (fun c_1 => ?_) (fun c_1 => absurd (by decide) c_1)
  refine lv_bipush (v := (-2)) hx hb dX11_method_22 (by decide) ?_
  refine W.widen (k := 0) (n := 0) (Nat.le_of_ble_eq_true rfl) (Nat.le_of_ble_eq_true rfl) ?_
  exact W.iret (v := (-2)) hx hb hr (fun t ht hW => ⟨⟨(-2), (), rfl, rfl, trivial⟩, hS.F ht⟩) hS.2.2 dX11_method_24
set_option maxHeartbeats 4000000 in
set_option maxRecDepth 100000 in
theorem c_least (l : Launch) (dC : Nat → ClassId) (dI : Nat → Nat → Nat) (h0 : Nat) (tp : Nat) (cr : Nat) (rr : Nat) (ra : Nat) (nw : Nat) (im : Nat) (ps : Nat) (po : Nat) (dy : Nat) (cn : Nat) (tr : Nat) (ns : Nat) (nd : Nat) (nb : Nat) (nc : Nat) (nc0 : Nat) (nc1 : Nat) (nc2 : Nat) (nc3 : Nat) (nc4 : Nat) (nc5 : Nat) (nc6 : Nat) (nc7 : Nat) (nc8 : Nat) (nc9 : Nat) (a0 : Int32) (sz : Nat) : Met l yX11_least (ws_u yX11_least cX11_least 3 (some .int)) ({ frames := 2, cells := 0, slots := 0, locals := 42 }) (va_Pc [.ref h0, .int a0] (cPre (dC, dI) [] [(h0, .inr (11, [.ref tp, .ref cr, .ref rr, .ref ra, .int 0, .ref nw, .ref im, .ref ps, .ref po, .ref dy, .ref cn, .ref tr])), (nw, .inr (10, [.ref nc, .ref ns, .int (-1), .int 0, .int 0, .ref nd, .ref nb, .int 0])), (nc, .inr (0, [.int 0, .int 0, .int 0, .int 0, .int 0, .int 0, .ref nc0, .ref nc1, .ref nc2, .ref nc3, .ref nc4, .ref nc5, .ref nc6, .ref nc7, .ref nc8, .ref nc9]))] sz)) (va_Qi (fun (r : Int32) (_ : Unit) => r = (-1)) (fun _ _ => True) (va_A [(h0, .inr (11, [.ref tp, .ref cr, .ref rr, .ref ra, .int 0, .ref nw, .ref im, .ref ps, .ref po, .ref dy, .ref cn, .ref tr])), (nw, .inr (10, [.ref nc, .ref ns, .int (-1), .int 0, .int 0, .ref nd, .ref nb, .int 0])), (nc, .inr (0, [.int 0, .int 0, .int 0, .int 0, .int 0, .int 0, .ref nc0, .ref nc1, .ref nc2, .ref nc3, .ref nc4, .ref nc5, .ref nc6, .ref nc7, .ref nc8, .ref nc9]))] sz)) 0 0 (va_A [(h0, .inr (11, [.ref tp, .ref cr, .ref rr, .ref ra, .int 0, .ref nw, .ref im, .ref ps, .ref po, .ref dy, .ref cn, .ref tr])), (nw, .inr (10, [.ref nc, .ref ns, .int (-1), .int 0, .int 0, .ref nd, .ref nb, .int 0])), (nc, .inr (0, [.int 0, .int 0, .int 0, .int 0, .int 0, .int 0, .ref nc0, .ref nc1, .ref nc2, .ref nc3, .ref nc4, .ref nc5, .ref nc6, .ref nc7, .ref nc8, .ref nc9]))] sz) := by
  refine Met.ofW (cc := cX11_least) (maxL := 3) (ret := (some .int)) (by decide) rfl ?_
  intro p e s m args below meth c s₁ B hml hv
  obtain ⟨rfl, hsz, hP, hK, hD0, hE⟩ := hv
  have hx := B.exec
  have hb := B.bytes
  have hr := B.returns
  have hts0 := atoms_spec (ws := ws_u yX11_least cX11_least 3 (some .int)) B.pre
  have hts : ∀ w ∈ gT, w.before _ s = true := fun w h => hts0 w (List.mem_cons_of_mem _ h)
  have hown : s.vm.findClass RX11 = some m.cls := findClass_of_methodNamed B.named
  have hlocks := B.notSynchronized
  subst hsz
  have hD := hD0.self (sz := s.heap.size)
  generalize hAe : va_A [(h0, .inr (11, [.ref tp, .ref cr, .ref rr, .ref ra, .int 0, .ref nw, .ref im, .ref ps, .ref po, .ref dy, .ref cn, .ref tr])), (nw, .inr (10, [.ref nc, .ref ns, .int (-1), .int 0, .int 0, .ref nd, .ref nb, .int 0])), (nc, .inr (0, [.int 0, .int 0, .int 0, .int 0, .int 0, .int 0, .ref nc0, .ref nc1, .ref nc2, .ref nc3, .ref nc4, .ref nc5, .ref nc6, .ref nc7, .ref nc8, .ref nc9]))] s.heap.size = A at hD ⊢
  have hA : ∀ q : Nat, s.heap.size ≤ q → A q := fun q h => by rw [← hAe]; exact Or.inr h
  have hS : va_S A s.heap s.heap [] := va_S.rf
  have hl := lv_entry ([.ref h0, .int a0]) (n := 3) (Nat.le_of_ble_eq_true rfl)
  rw [lg_entry_eq]
  generalize (lg_sl ([.ref h0, .int a0]) ++ List.replicate (3 - (lg_sl ([.ref h0, .int a0])).length) Slot.unset).toArray = ls at hl ⊢
  have hl : lv_has ls 3 [(0, .ref h0), (1, .int a0)] := hl
  have hP : va_P (dC, dI) vwCl [(h0, .inr (11, [.ref tp, .ref cr, .ref rr, .ref ra, .int 0, .ref nw, .ref im, .ref ps, .ref po, .ref dy, .ref cn, .ref tr])), (nw, .inr (10, [.ref nc, .ref ns, .int (-1), .int 0, .int 0, .ref nd, .ref nb, .int 0])), (nc, .inr (0, [.int 0, .int 0, .int 0, .int 0, .int 0, .int 0, .ref nc0, .ref nc1, .ref nc2, .ref nc3, .ref nc4, .ref nc5, .ref nc6, .ref nc7, .ref nc8, .ref nc9]))] s.heap := hP
  try clear hAe
  refine lv_aload_n hx hb dX11_least_0 rfl (lv_at hl 0 rfl) ?_
  refine lv_iload_n hx hb dX11_least_1 rfl (lv_at hl 1 rfl) ?_
  have hPc := hP.sub (ws' := [(h0, .inr (11, [.ref tp, .ref cr, .ref rr, .ref ra, .int 0, .ref nw, .ref im, .ref ps, .ref po, .ref dy, .ref cn, .ref tr])), (nw, .inr (10, [.ref nc, .ref ns, .int (-1), .int 0, .int 0, .ref nd, .ref nb, .int 0])), (nc, .inr (0, [.int 0, .int 0, .int 0, .int 0, .int 0, .int 0, .ref nc0, .ref nc1, .ref nc2, .ref nc3, .ref nc4, .ref nc5, .ref nc6, .ref nc7, .ref nc8, .ref nc9]))]) [0, 1, 2] rfl
  have hDc := hD.sub (ws' := [(h0, .inr (11, [.ref tp, .ref cr, .ref rr, .ref ra, .int 0, .ref nw, .ref im, .ref ps, .ref po, .ref dy, .ref cn, .ref tr])), (nw, .inr (10, [.ref nc, .ref ns, .int (-1), .int 0, .int 0, .ref nd, .ref nb, .int 0])), (nc, .inr (0, [.int 0, .int 0, .int 0, .int 0, .int 0, .int 0, .ref nc0, .ref nc1, .ref nc2, .ref nc3, .ref nc4, .ref nc5, .ref nc6, .ref nc7, .ref nc8, .ref nc9]))]) [0, 1, 2] (by decide) rfl
  have hKc := hK.sub (tys' := []) [] rfl
  have hFc := va_free (wc := [(h0, .inr (11, [.ref tp, .ref cr, .ref rr, .ref ra, .int 0, .ref nw, .ref im, .ref ps, .ref po, .ref dy, .ref cn, .ref tr])), (nw, .inr (10, [.ref nc, .ref ns, .int (-1), .int 0, .int 0, .ref nd, .ref nb, .int 0])), (nc, .inr (0, [.int 0, .int 0, .int 0, .int 0, .int 0, .int 0, .ref nc0, .ref nc1, .ref nc2, .ref nc3, .ref nc4, .ref nc5, .ref nc6, .ref nc7, .ref nc8, .ref nc9]))]) hD hS hA [0, 1, 2] rfl
  refine va_calli (va_runV (As := [.int a0]) (rest := []) ⟨hx, hb, hml, hown, hts⟩ (c_isSinging l dC dI h0 tp cr rr ra nw im ps po dy cn tr ns nd nb nc nc0 nc1 nc2 nc3 nc4 nc5 nc6 nc7 nc8 nc9 a0  s.heap.size) (cwV 1 hts (gUV tw_878 tw_880 ts_1_15 tw_1 tw_881) rfl rfl rfl (by decide +kernel) ⟨(Nat.le_of_ble_eq_true rfl), (Nat.le_of_ble_eq_true rfl)⟩) ⟨cPre.blind, va_recv hKc hPc (ci := 11) (q0 := 0) rfl rfl, cPre.use hPc hKc hDc hE⟩ rfl rfl hl.1 rfl (lv_room (Nat.le_of_ble_eq_true rfl)) dX11_least_2 ⟨(Nat.le_of_ble_eq_true rfl), (Nat.le_of_ble_eq_true rfl)⟩) hS (fun q _ h => hFc q h) hFc (fun r_1 u t H1 locs ht hvm hw hB hz1 hk1 hS => ?_)
  obtain ⟨hP1, hK1, hD1⟩ := hB
  rw [ht] at hP1
  obtain ⟨hP, hD⟩ := va_join (wr := []) (w1 := [(h0, .inr (11, [.ref tp, .ref cr, .ref rr, .ref ra, .int 0, .ref nw, .ref im, .ref ps, .ref po, .ref dy, .ref cn, .ref tr])), (nw, .inr (10, [.ref nc, .ref ns, .int (-1), .int 0, .int 0, .ref nd, .ref nb, .int 0])), (nc, .inr (0, [.int 0, .int 0, .int 0, .int 0, .int 0, .int 0, .ref nc0, .ref nc1, .ref nc2, .ref nc3, .ref nc4, .ref nc5, .ref nc6, .ref nc7, .ref nc8, .ref nc9]))]) hP hD [0, 1, 2] [] rfl rfl (by decide) (by decide) hk1 hFc hP1 hD1
  generalize H1 = H at hP hS ⊢
  have hP : va_P (dC, dI) vwCl [(h0, .inr (11, [.ref tp, .ref cr, .ref rr, .ref ra, .int 0, .ref nw, .ref im, .ref ps, .ref po, .ref dy, .ref cn, .ref tr])), (nw, .inr (10, [.ref nc, .ref ns, .int (-1), .int 0, .int 0, .ref nd, .ref nb, .int 0])), (nc, .inr (0, [.int 0, .int 0, .int 0, .int 0, .int 0, .int 0, .ref nc0, .ref nc1, .ref nc2, .ref nc3, .ref nc4, .ref nc5, .ref nc6, .ref nc7, .ref nc8, .ref nc9]))] H := hP
  have hD : va_D A [(h0, .inr (11, [.ref tp, .ref cr, .ref rr, .ref ra, .int 0, .ref nw, .ref im, .ref ps, .ref po, .ref dy, .ref cn, .ref tr])), (nw, .inr (10, [.ref nc, .ref ns, .int (-1), .int 0, .int 0, .ref nd, .ref nb, .int 0])), (nc, .inr (0, [.int 0, .int 0, .int 0, .int 0, .int 0, .int 0, .ref nc0, .ref nc1, .ref nc2, .ref nc3, .ref nc4, .ref nc5, .ref nc6, .ref nc7, .ref nc8, .ref nc9]))] := hD
  obtain rfl : r_1 = 0 := hw
  refine lv_if_ne (tgt := 10) hx hb dX11_least_5 (by decide) (fun c_2 => absurd (by decide) c_2) (fun c_2 => ?_)
  refine lv_iconst (v := (-1)) hx hb dX11_least_8 (by decide) ?_
  refine W.widen (k := 0) (n := 0) (Nat.le_of_ble_eq_true rfl) (Nat.le_of_ble_eq_true rfl) ?_
  exact W.iret (v := (-1)) hx hb hr (fun t ht hW => ⟨⟨(-1), (), rfl, rfl, trivial⟩, hS.F ht⟩) hS.2.2 dX11_least_9
set_option maxHeartbeats 4000000 in
set_option maxRecDepth 100000 in
theorem c_winOver (l : Launch) (dC : Nat → ClassId) (dI : Nat → Nat → Nat) (h0 : Nat) (tp : Nat) (cr : Nat) (rr : Nat) (ra : Nat) (nw : Nat) (im : Nat) (ps : Nat) (po : Nat) (dy : Nat) (cn : Nat) (tr : Nat) (ns : Nat) (nd : Nat) (nb : Nat) (nc : Nat) (nc0 : Nat) (nc1 : Nat) (nc2 : Nat) (nc3 : Nat) (nc4 : Nat) (nc5 : Nat) (nc6 : Nat) (nc7 : Nat) (nc8 : Nat) (nc9 : Nat) (a0 : Int32) (a1 : Int32) (sz : Nat) : Met l yX11_winOver (ws_u yX11_winOver cX11_winOver 4 (some .int)) ({ frames := 2, cells := 0, slots := 0, locals := 42 }) (va_Pc [.ref h0, .int a0, .int a1] (cPre (dC, dI) [] [(h0, .inr (11, [.ref tp, .ref cr, .ref rr, .ref ra, .int 0, .ref nw, .ref im, .ref ps, .ref po, .ref dy, .ref cn, .ref tr])), (nw, .inr (10, [.ref nc, .ref ns, .int (-1), .int 0, .int 0, .ref nd, .ref nb, .int 0])), (nc, .inr (0, [.int 0, .int 0, .int 0, .int 0, .int 0, .int 0, .ref nc0, .ref nc1, .ref nc2, .ref nc3, .ref nc4, .ref nc5, .ref nc6, .ref nc7, .ref nc8, .ref nc9]))] sz)) (va_Qi (fun (r : Int32) (_ : Unit) => r = (-1)) (fun _ _ => True) (va_A [(h0, .inr (11, [.ref tp, .ref cr, .ref rr, .ref ra, .int 0, .ref nw, .ref im, .ref ps, .ref po, .ref dy, .ref cn, .ref tr])), (nw, .inr (10, [.ref nc, .ref ns, .int (-1), .int 0, .int 0, .ref nd, .ref nb, .int 0])), (nc, .inr (0, [.int 0, .int 0, .int 0, .int 0, .int 0, .int 0, .ref nc0, .ref nc1, .ref nc2, .ref nc3, .ref nc4, .ref nc5, .ref nc6, .ref nc7, .ref nc8, .ref nc9]))] sz)) 0 0 (va_A [(h0, .inr (11, [.ref tp, .ref cr, .ref rr, .ref ra, .int 0, .ref nw, .ref im, .ref ps, .ref po, .ref dy, .ref cn, .ref tr])), (nw, .inr (10, [.ref nc, .ref ns, .int (-1), .int 0, .int 0, .ref nd, .ref nb, .int 0])), (nc, .inr (0, [.int 0, .int 0, .int 0, .int 0, .int 0, .int 0, .ref nc0, .ref nc1, .ref nc2, .ref nc3, .ref nc4, .ref nc5, .ref nc6, .ref nc7, .ref nc8, .ref nc9]))] sz) := by
  refine Met.ofW (cc := cX11_winOver) (maxL := 4) (ret := (some .int)) (by decide) rfl ?_
  intro p e s m args below meth c s₁ B hml hv
  obtain ⟨rfl, hsz, hP, hK, hD0, hE⟩ := hv
  have hx := B.exec
  have hb := B.bytes
  have hr := B.returns
  have hts0 := atoms_spec (ws := ws_u yX11_winOver cX11_winOver 4 (some .int)) B.pre
  have hts : ∀ w ∈ gT, w.before _ s = true := fun w h => hts0 w (List.mem_cons_of_mem _ h)
  have hown : s.vm.findClass RX11 = some m.cls := findClass_of_methodNamed B.named
  have hlocks := B.notSynchronized
  subst hsz
  have hD := hD0.self (sz := s.heap.size)
  generalize hAe : va_A [(h0, .inr (11, [.ref tp, .ref cr, .ref rr, .ref ra, .int 0, .ref nw, .ref im, .ref ps, .ref po, .ref dy, .ref cn, .ref tr])), (nw, .inr (10, [.ref nc, .ref ns, .int (-1), .int 0, .int 0, .ref nd, .ref nb, .int 0])), (nc, .inr (0, [.int 0, .int 0, .int 0, .int 0, .int 0, .int 0, .ref nc0, .ref nc1, .ref nc2, .ref nc3, .ref nc4, .ref nc5, .ref nc6, .ref nc7, .ref nc8, .ref nc9]))] s.heap.size = A at hD ⊢
  have hA : ∀ q : Nat, s.heap.size ≤ q → A q := fun q h => by rw [← hAe]; exact Or.inr h
  have hS : va_S A s.heap s.heap [] := va_S.rf
  have hl := lv_entry ([.ref h0, .int a0, .int a1]) (n := 4) (Nat.le_of_ble_eq_true rfl)
  rw [lg_entry_eq]
  generalize (lg_sl ([.ref h0, .int a0, .int a1]) ++ List.replicate (4 - (lg_sl ([.ref h0, .int a0, .int a1])).length) Slot.unset).toArray = ls at hl ⊢
  have hl : lv_has ls 4 [(0, .ref h0), (1, .int a0), (2, .int a1)] := hl
  have hP : va_P (dC, dI) vwCl [(h0, .inr (11, [.ref tp, .ref cr, .ref rr, .ref ra, .int 0, .ref nw, .ref im, .ref ps, .ref po, .ref dy, .ref cn, .ref tr])), (nw, .inr (10, [.ref nc, .ref ns, .int (-1), .int 0, .int 0, .ref nd, .ref nb, .int 0])), (nc, .inr (0, [.int 0, .int 0, .int 0, .int 0, .int 0, .int 0, .ref nc0, .ref nc1, .ref nc2, .ref nc3, .ref nc4, .ref nc5, .ref nc6, .ref nc7, .ref nc8, .ref nc9]))] s.heap := hP
  try clear hAe
  refine lv_aload_n hx hb dX11_winOver_0 rfl (lv_at hl 0 rfl) ?_
  refine lv_iload_n hx hb dX11_winOver_1 rfl (lv_at hl 1 rfl) ?_
  have hPc := hP.sub (ws' := [(h0, .inr (11, [.ref tp, .ref cr, .ref rr, .ref ra, .int 0, .ref nw, .ref im, .ref ps, .ref po, .ref dy, .ref cn, .ref tr])), (nw, .inr (10, [.ref nc, .ref ns, .int (-1), .int 0, .int 0, .ref nd, .ref nb, .int 0])), (nc, .inr (0, [.int 0, .int 0, .int 0, .int 0, .int 0, .int 0, .ref nc0, .ref nc1, .ref nc2, .ref nc3, .ref nc4, .ref nc5, .ref nc6, .ref nc7, .ref nc8, .ref nc9]))]) [0, 1, 2] rfl
  have hDc := hD.sub (ws' := [(h0, .inr (11, [.ref tp, .ref cr, .ref rr, .ref ra, .int 0, .ref nw, .ref im, .ref ps, .ref po, .ref dy, .ref cn, .ref tr])), (nw, .inr (10, [.ref nc, .ref ns, .int (-1), .int 0, .int 0, .ref nd, .ref nb, .int 0])), (nc, .inr (0, [.int 0, .int 0, .int 0, .int 0, .int 0, .int 0, .ref nc0, .ref nc1, .ref nc2, .ref nc3, .ref nc4, .ref nc5, .ref nc6, .ref nc7, .ref nc8, .ref nc9]))]) [0, 1, 2] (by decide) rfl
  have hKc := hK.sub (tys' := []) [] rfl
  have hFc := va_free (wc := [(h0, .inr (11, [.ref tp, .ref cr, .ref rr, .ref ra, .int 0, .ref nw, .ref im, .ref ps, .ref po, .ref dy, .ref cn, .ref tr])), (nw, .inr (10, [.ref nc, .ref ns, .int (-1), .int 0, .int 0, .ref nd, .ref nb, .int 0])), (nc, .inr (0, [.int 0, .int 0, .int 0, .int 0, .int 0, .int 0, .ref nc0, .ref nc1, .ref nc2, .ref nc3, .ref nc4, .ref nc5, .ref nc6, .ref nc7, .ref nc8, .ref nc9]))]) hD hS hA [0, 1, 2] rfl
  refine va_calli (va_runV (As := [.int a0]) (rest := []) ⟨hx, hb, hml, hown, hts⟩ (c_isSinging l dC dI h0 tp cr rr ra nw im ps po dy cn tr ns nd nb nc nc0 nc1 nc2 nc3 nc4 nc5 nc6 nc7 nc8 nc9 a0  s.heap.size) (cwV 1 hts (gUV tw_878 tw_880 ts_1_15 tw_1 tw_881) rfl rfl rfl (by decide +kernel) ⟨(Nat.le_of_ble_eq_true rfl), (Nat.le_of_ble_eq_true rfl)⟩) ⟨cPre.blind, va_recv hKc hPc (ci := 11) (q0 := 0) rfl rfl, cPre.use hPc hKc hDc hE⟩ rfl rfl hl.1 rfl (lv_room (Nat.le_of_ble_eq_true rfl)) dX11_winOver_2 ⟨(Nat.le_of_ble_eq_true rfl), (Nat.le_of_ble_eq_true rfl)⟩) hS (fun q _ h => hFc q h) hFc (fun r_1 u t H1 locs ht hvm hw hB hz1 hk1 hS => ?_)
  obtain ⟨hP1, hK1, hD1⟩ := hB
  rw [ht] at hP1
  obtain ⟨hP, hD⟩ := va_join (wr := []) (w1 := [(h0, .inr (11, [.ref tp, .ref cr, .ref rr, .ref ra, .int 0, .ref nw, .ref im, .ref ps, .ref po, .ref dy, .ref cn, .ref tr])), (nw, .inr (10, [.ref nc, .ref ns, .int (-1), .int 0, .int 0, .ref nd, .ref nb, .int 0])), (nc, .inr (0, [.int 0, .int 0, .int 0, .int 0, .int 0, .int 0, .ref nc0, .ref nc1, .ref nc2, .ref nc3, .ref nc4, .ref nc5, .ref nc6, .ref nc7, .ref nc8, .ref nc9]))]) hP hD [0, 1, 2] [] rfl rfl (by decide) (by decide) hk1 hFc hP1 hD1
  generalize H1 = H at hP hS ⊢
  have hP : va_P (dC, dI) vwCl [(h0, .inr (11, [.ref tp, .ref cr, .ref rr, .ref ra, .int 0, .ref nw, .ref im, .ref ps, .ref po, .ref dy, .ref cn, .ref tr])), (nw, .inr (10, [.ref nc, .ref ns, .int (-1), .int 0, .int 0, .ref nd, .ref nb, .int 0])), (nc, .inr (0, [.int 0, .int 0, .int 0, .int 0, .int 0, .int 0, .ref nc0, .ref nc1, .ref nc2, .ref nc3, .ref nc4, .ref nc5, .ref nc6, .ref nc7, .ref nc8, .ref nc9]))] H := hP
  have hD : va_D A [(h0, .inr (11, [.ref tp, .ref cr, .ref rr, .ref ra, .int 0, .ref nw, .ref im, .ref ps, .ref po, .ref dy, .ref cn, .ref tr])), (nw, .inr (10, [.ref nc, .ref ns, .int (-1), .int 0, .int 0, .ref nd, .ref nb, .int 0])), (nc, .inr (0, [.int 0, .int 0, .int 0, .int 0, .int 0, .int 0, .ref nc0, .ref nc1, .ref nc2, .ref nc3, .ref nc4, .ref nc5, .ref nc6, .ref nc7, .ref nc8, .ref nc9]))] := hD
  obtain rfl : r_1 = 0 := hw
  refine lv_if_eq (tgt := 17) hx hb dX11_winOver_5 (by decide) (fun c_2 => ?_) (fun c_2 => absurd (by decide) c_2)
  refine lv_iconst (v := (-1)) hx hb dX11_winOver_17 (by decide) ?_
  refine W.widen (k := 0) (n := 0) (Nat.le_of_ble_eq_true rfl) (Nat.le_of_ble_eq_true rfl) ?_
  exact W.iret (v := (-1)) hx hb hr (fun t ht hW => ⟨⟨(-1), (), rfl, rfl, trivial⟩, hS.F ht⟩) hS.2.2 dX11_winOver_18
set_option maxHeartbeats 4000000 in
set_option maxRecDepth 100000 in
theorem c_rests (l : Launch) (dC : Nat → ClassId) (dI : Nat → Nat → Nat) (h0 : Nat) (tp : Nat) (cr : Nat) (rr : Nat) (ra : Nat) (nw : Nat) (im : Nat) (ps : Nat) (po : Nat) (dy : Nat) (cn : Nat) (tr : Nat) (ns : Nat) (nd : Nat) (nb : Nat) (nc : Nat) (nc0 : Nat) (nc1 : Nat) (nc2 : Nat) (nc3 : Nat) (nc4 : Nat) (nc5 : Nat) (nc6 : Nat) (nc7 : Nat) (nc8 : Nat) (nc9 : Nat) (a0 : Int32) (a1 : Int32) (a2 : Int32) (sz : Nat) : Met l yX11_rests (ws_u yX11_rests cX11_rests 5 (some .int)) ({ frames := 2, cells := 0, slots := 0, locals := 42 }) (va_Pc [.ref h0, .int a0, .int a1, .int a2] (cPre (dC, dI) [] [(h0, .inr (11, [.ref tp, .ref cr, .ref rr, .ref ra, .int 0, .ref nw, .ref im, .ref ps, .ref po, .ref dy, .ref cn, .ref tr])), (nw, .inr (10, [.ref nc, .ref ns, .int (-1), .int 0, .int 0, .ref nd, .ref nb, .int 0])), (nc, .inr (0, [.int 0, .int 0, .int 0, .int 0, .int 0, .int 0, .ref nc0, .ref nc1, .ref nc2, .ref nc3, .ref nc4, .ref nc5, .ref nc6, .ref nc7, .ref nc8, .ref nc9]))] sz)) (va_Qi (fun (r : Int32) (_ : Unit) => r = (-1)) (fun _ _ => True) (va_A [(h0, .inr (11, [.ref tp, .ref cr, .ref rr, .ref ra, .int 0, .ref nw, .ref im, .ref ps, .ref po, .ref dy, .ref cn, .ref tr])), (nw, .inr (10, [.ref nc, .ref ns, .int (-1), .int 0, .int 0, .ref nd, .ref nb, .int 0])), (nc, .inr (0, [.int 0, .int 0, .int 0, .int 0, .int 0, .int 0, .ref nc0, .ref nc1, .ref nc2, .ref nc3, .ref nc4, .ref nc5, .ref nc6, .ref nc7, .ref nc8, .ref nc9]))] sz)) 0 0 (va_A [(h0, .inr (11, [.ref tp, .ref cr, .ref rr, .ref ra, .int 0, .ref nw, .ref im, .ref ps, .ref po, .ref dy, .ref cn, .ref tr])), (nw, .inr (10, [.ref nc, .ref ns, .int (-1), .int 0, .int 0, .ref nd, .ref nb, .int 0])), (nc, .inr (0, [.int 0, .int 0, .int 0, .int 0, .int 0, .int 0, .ref nc0, .ref nc1, .ref nc2, .ref nc3, .ref nc4, .ref nc5, .ref nc6, .ref nc7, .ref nc8, .ref nc9]))] sz) := by
  refine Met.ofW (cc := cX11_rests) (maxL := 5) (ret := (some .int)) (by decide) rfl ?_
  intro p e s m args below meth c s₁ B hml hv
  obtain ⟨rfl, hsz, hP, hK, hD0, hE⟩ := hv
  have hx := B.exec
  have hb := B.bytes
  have hr := B.returns
  have hts0 := atoms_spec (ws := ws_u yX11_rests cX11_rests 5 (some .int)) B.pre
  have hts : ∀ w ∈ gT, w.before _ s = true := fun w h => hts0 w (List.mem_cons_of_mem _ h)
  have hown : s.vm.findClass RX11 = some m.cls := findClass_of_methodNamed B.named
  have hlocks := B.notSynchronized
  subst hsz
  have hD := hD0.self (sz := s.heap.size)
  generalize hAe : va_A [(h0, .inr (11, [.ref tp, .ref cr, .ref rr, .ref ra, .int 0, .ref nw, .ref im, .ref ps, .ref po, .ref dy, .ref cn, .ref tr])), (nw, .inr (10, [.ref nc, .ref ns, .int (-1), .int 0, .int 0, .ref nd, .ref nb, .int 0])), (nc, .inr (0, [.int 0, .int 0, .int 0, .int 0, .int 0, .int 0, .ref nc0, .ref nc1, .ref nc2, .ref nc3, .ref nc4, .ref nc5, .ref nc6, .ref nc7, .ref nc8, .ref nc9]))] s.heap.size = A at hD ⊢
  have hA : ∀ q : Nat, s.heap.size ≤ q → A q := fun q h => by rw [← hAe]; exact Or.inr h
  have hS : va_S A s.heap s.heap [] := va_S.rf
  have hl := lv_entry ([.ref h0, .int a0, .int a1, .int a2]) (n := 5) (Nat.le_of_ble_eq_true rfl)
  rw [lg_entry_eq]
  generalize (lg_sl ([.ref h0, .int a0, .int a1, .int a2]) ++ List.replicate (5 - (lg_sl ([.ref h0, .int a0, .int a1, .int a2])).length) Slot.unset).toArray = ls at hl ⊢
  have hl : lv_has ls 5 [(0, .ref h0), (1, .int a0), (2, .int a1), (3, .int a2)] := hl
  have hP : va_P (dC, dI) vwCl [(h0, .inr (11, [.ref tp, .ref cr, .ref rr, .ref ra, .int 0, .ref nw, .ref im, .ref ps, .ref po, .ref dy, .ref cn, .ref tr])), (nw, .inr (10, [.ref nc, .ref ns, .int (-1), .int 0, .int 0, .ref nd, .ref nb, .int 0])), (nc, .inr (0, [.int 0, .int 0, .int 0, .int 0, .int 0, .int 0, .ref nc0, .ref nc1, .ref nc2, .ref nc3, .ref nc4, .ref nc5, .ref nc6, .ref nc7, .ref nc8, .ref nc9]))] s.heap := hP
  try clear hAe
  refine lv_aload_n hx hb dX11_rests_0 rfl (lv_at hl 0 rfl) ?_
  refine lv_iload_n hx hb dX11_rests_1 rfl (lv_at hl 1 rfl) ?_
  have hPc := hP.sub (ws' := [(h0, .inr (11, [.ref tp, .ref cr, .ref rr, .ref ra, .int 0, .ref nw, .ref im, .ref ps, .ref po, .ref dy, .ref cn, .ref tr])), (nw, .inr (10, [.ref nc, .ref ns, .int (-1), .int 0, .int 0, .ref nd, .ref nb, .int 0])), (nc, .inr (0, [.int 0, .int 0, .int 0, .int 0, .int 0, .int 0, .ref nc0, .ref nc1, .ref nc2, .ref nc3, .ref nc4, .ref nc5, .ref nc6, .ref nc7, .ref nc8, .ref nc9]))]) [0, 1, 2] rfl
  have hDc := hD.sub (ws' := [(h0, .inr (11, [.ref tp, .ref cr, .ref rr, .ref ra, .int 0, .ref nw, .ref im, .ref ps, .ref po, .ref dy, .ref cn, .ref tr])), (nw, .inr (10, [.ref nc, .ref ns, .int (-1), .int 0, .int 0, .ref nd, .ref nb, .int 0])), (nc, .inr (0, [.int 0, .int 0, .int 0, .int 0, .int 0, .int 0, .ref nc0, .ref nc1, .ref nc2, .ref nc3, .ref nc4, .ref nc5, .ref nc6, .ref nc7, .ref nc8, .ref nc9]))]) [0, 1, 2] (by decide) rfl
  have hKc := hK.sub (tys' := []) [] rfl
  have hFc := va_free (wc := [(h0, .inr (11, [.ref tp, .ref cr, .ref rr, .ref ra, .int 0, .ref nw, .ref im, .ref ps, .ref po, .ref dy, .ref cn, .ref tr])), (nw, .inr (10, [.ref nc, .ref ns, .int (-1), .int 0, .int 0, .ref nd, .ref nb, .int 0])), (nc, .inr (0, [.int 0, .int 0, .int 0, .int 0, .int 0, .int 0, .ref nc0, .ref nc1, .ref nc2, .ref nc3, .ref nc4, .ref nc5, .ref nc6, .ref nc7, .ref nc8, .ref nc9]))]) hD hS hA [0, 1, 2] rfl
  refine va_calli (va_runV (As := [.int a0]) (rest := []) ⟨hx, hb, hml, hown, hts⟩ (c_isSinging l dC dI h0 tp cr rr ra nw im ps po dy cn tr ns nd nb nc nc0 nc1 nc2 nc3 nc4 nc5 nc6 nc7 nc8 nc9 a0  s.heap.size) (cwV 1 hts (gUV tw_878 tw_880 ts_1_15 tw_1 tw_881) rfl rfl rfl (by decide +kernel) ⟨(Nat.le_of_ble_eq_true rfl), (Nat.le_of_ble_eq_true rfl)⟩) ⟨cPre.blind, va_recv hKc hPc (ci := 11) (q0 := 0) rfl rfl, cPre.use hPc hKc hDc hE⟩ rfl rfl hl.1 rfl (lv_room (Nat.le_of_ble_eq_true rfl)) dX11_rests_2 ⟨(Nat.le_of_ble_eq_true rfl), (Nat.le_of_ble_eq_true rfl)⟩) hS (fun q _ h => hFc q h) hFc (fun r_1 u t H1 locs ht hvm hw hB hz1 hk1 hS => ?_)
  obtain ⟨hP1, hK1, hD1⟩ := hB
  rw [ht] at hP1
  obtain ⟨hP, hD⟩ := va_join (wr := []) (w1 := [(h0, .inr (11, [.ref tp, .ref cr, .ref rr, .ref ra, .int 0, .ref nw, .ref im, .ref ps, .ref po, .ref dy, .ref cn, .ref tr])), (nw, .inr (10, [.ref nc, .ref ns, .int (-1), .int 0, .int 0, .ref nd, .ref nb, .int 0])), (nc, .inr (0, [.int 0, .int 0, .int 0, .int 0, .int 0, .int 0, .ref nc0, .ref nc1, .ref nc2, .ref nc3, .ref nc4, .ref nc5, .ref nc6, .ref nc7, .ref nc8, .ref nc9]))]) hP hD [0, 1, 2] [] rfl rfl (by decide) (by decide) hk1 hFc hP1 hD1
  generalize H1 = H at hP hS ⊢
  have hP : va_P (dC, dI) vwCl [(h0, .inr (11, [.ref tp, .ref cr, .ref rr, .ref ra, .int 0, .ref nw, .ref im, .ref ps, .ref po, .ref dy, .ref cn, .ref tr])), (nw, .inr (10, [.ref nc, .ref ns, .int (-1), .int 0, .int 0, .ref nd, .ref nb, .int 0])), (nc, .inr (0, [.int 0, .int 0, .int 0, .int 0, .int 0, .int 0, .ref nc0, .ref nc1, .ref nc2, .ref nc3, .ref nc4, .ref nc5, .ref nc6, .ref nc7, .ref nc8, .ref nc9]))] H := hP
  have hD : va_D A [(h0, .inr (11, [.ref tp, .ref cr, .ref rr, .ref ra, .int 0, .ref nw, .ref im, .ref ps, .ref po, .ref dy, .ref cn, .ref tr])), (nw, .inr (10, [.ref nc, .ref ns, .int (-1), .int 0, .int 0, .ref nd, .ref nb, .int 0])), (nc, .inr (0, [.int 0, .int 0, .int 0, .int 0, .int 0, .int 0, .ref nc0, .ref nc1, .ref nc2, .ref nc3, .ref nc4, .ref nc5, .ref nc6, .ref nc7, .ref nc8, .ref nc9]))] := hD
  obtain rfl : r_1 = 0 := hw
  refine lv_if_eq (tgt := 30) hx hb dX11_rests_5 (by decide) (fun c_2 => ?_) (fun c_2 => absurd (by decide) c_2)
  refine lv_iconst (v := (-1)) hx hb dX11_rests_30 (by decide) ?_
  refine W.widen (k := 0) (n := 0) (Nat.le_of_ble_eq_true rfl) (Nat.le_of_ble_eq_true rfl) ?_
  exact W.iret (v := (-1)) hx hb hr (fun t ht hW => ⟨⟨(-1), (), rfl, rfl, trivial⟩, hS.F ht⟩) hS.2.2 dX11_rests_31
set_option maxHeartbeats 4000000 in
set_option maxRecDepth 100000 in
theorem c_round (l : Launch) (dC : Nat → ClassId) (dI : Nat → Nat → Nat) (h0 : Nat) (tp : Nat) (cr : Nat) (rr : Nat) (ra : Nat) (nw : Nat) (im : Nat) (ps : Nat) (po : Nat) (dy : Nat) (cn : Nat) (tr : Nat) (ns : Nat) (nd : Nat) (nb : Nat) (nc : Nat) (nc0 : Nat) (nc1 : Nat) (nc2 : Nat) (nc3 : Nat) (nc4 : Nat) (nc5 : Nat) (nc6 : Nat) (nc7 : Nat) (nc8 : Nat) (nc9 : Nat) (a0 : Int32) (sz : Nat) : Met l yX11_round (ws_u yX11_round cX11_round 3 (some .int)) ({ frames := 0, cells := 0, slots := 0, locals := 0 }) (va_Pc [.ref h0, .int a0] (cPre (dC, dI) [] [(h0, .inr (11, [.ref tp, .ref cr, .ref rr, .ref ra, .int 0, .ref nw, .ref im, .ref ps, .ref po, .ref dy, .ref cn, .ref tr])), (nw, .inr (10, [.ref nc, .ref ns, .int (-1), .int 0, .int 0, .ref nd, .ref nb, .int 0])), (nc, .inr (0, [.int 0, .int 0, .int 0, .int 0, .int 0, .int 0, .ref nc0, .ref nc1, .ref nc2, .ref nc3, .ref nc4, .ref nc5, .ref nc6, .ref nc7, .ref nc8, .ref nc9]))] sz)) (va_Qi (fun (r : Int32) (_ : Unit) => r = (-1)) (fun _ _ => True) (va_A [(h0, .inr (11, [.ref tp, .ref cr, .ref rr, .ref ra, .int 0, .ref nw, .ref im, .ref ps, .ref po, .ref dy, .ref cn, .ref tr])), (nw, .inr (10, [.ref nc, .ref ns, .int (-1), .int 0, .int 0, .ref nd, .ref nb, .int 0])), (nc, .inr (0, [.int 0, .int 0, .int 0, .int 0, .int 0, .int 0, .ref nc0, .ref nc1, .ref nc2, .ref nc3, .ref nc4, .ref nc5, .ref nc6, .ref nc7, .ref nc8, .ref nc9]))] sz)) 0 0 (va_A [(h0, .inr (11, [.ref tp, .ref cr, .ref rr, .ref ra, .int 0, .ref nw, .ref im, .ref ps, .ref po, .ref dy, .ref cn, .ref tr])), (nw, .inr (10, [.ref nc, .ref ns, .int (-1), .int 0, .int 0, .ref nd, .ref nb, .int 0])), (nc, .inr (0, [.int 0, .int 0, .int 0, .int 0, .int 0, .int 0, .ref nc0, .ref nc1, .ref nc2, .ref nc3, .ref nc4, .ref nc5, .ref nc6, .ref nc7, .ref nc8, .ref nc9]))] sz) := by
  refine Met.ofW (cc := cX11_round) (maxL := 3) (ret := (some .int)) (by decide) rfl ?_
  intro p e s m args below meth c s₁ B hml hv
  obtain ⟨rfl, hsz, hP, hK, hD0, hE⟩ := hv
  have hx := B.exec
  have hb := B.bytes
  have hr := B.returns
  have hts0 := atoms_spec (ws := ws_u yX11_round cX11_round 3 (some .int)) B.pre
  have hts : ∀ w ∈ gT, w.before _ s = true := fun w h => hts0 w (List.mem_cons_of_mem _ h)
  have hown : s.vm.findClass RX11 = some m.cls := findClass_of_methodNamed B.named
  have hlocks := B.notSynchronized
  subst hsz
  have hD := hD0.self (sz := s.heap.size)
  generalize hAe : va_A [(h0, .inr (11, [.ref tp, .ref cr, .ref rr, .ref ra, .int 0, .ref nw, .ref im, .ref ps, .ref po, .ref dy, .ref cn, .ref tr])), (nw, .inr (10, [.ref nc, .ref ns, .int (-1), .int 0, .int 0, .ref nd, .ref nb, .int 0])), (nc, .inr (0, [.int 0, .int 0, .int 0, .int 0, .int 0, .int 0, .ref nc0, .ref nc1, .ref nc2, .ref nc3, .ref nc4, .ref nc5, .ref nc6, .ref nc7, .ref nc8, .ref nc9]))] s.heap.size = A at hD ⊢
  have hA : ∀ q : Nat, s.heap.size ≤ q → A q := fun q h => by rw [← hAe]; exact Or.inr h
  have hS : va_S A s.heap s.heap [] := va_S.rf
  have hl := lv_entry ([.ref h0, .int a0]) (n := 3) (Nat.le_of_ble_eq_true rfl)
  rw [lg_entry_eq]
  generalize (lg_sl ([.ref h0, .int a0]) ++ List.replicate (3 - (lg_sl ([.ref h0, .int a0])).length) Slot.unset).toArray = ls at hl ⊢
  have hl : lv_has ls 3 [(0, .ref h0), (1, .int a0)] := hl
  have hP : va_P (dC, dI) vwCl [(h0, .inr (11, [.ref tp, .ref cr, .ref rr, .ref ra, .int 0, .ref nw, .ref im, .ref ps, .ref po, .ref dy, .ref cn, .ref tr])), (nw, .inr (10, [.ref nc, .ref ns, .int (-1), .int 0, .int 0, .ref nd, .ref nb, .int 0])), (nc, .inr (0, [.int 0, .int 0, .int 0, .int 0, .int 0, .int 0, .ref nc0, .ref nc1, .ref nc2, .ref nc3, .ref nc4, .ref nc5, .ref nc6, .ref nc7, .ref nc8, .ref nc9]))] s.heap := hP
  try clear hAe
  refine lv_aload_n hx hb dX11_round_0 rfl (lv_at hl 0 rfl) ?_
  refine va_get (D := (dC, dI)) (ci := 11) (v := .ref nw) (C := RX11) (T := TX11) (N := 12) hx hb hts iX11 hown hK hP 0 rfl rfl 5 (by decide) (hts _ tw_428) (fun _ h9 => h9) rfl dX11_round_1 ?_
  refine va_get (D := (dC, dI)) (ci := 10) (v := .ref nc) (C := RX10) (T := TX10) (N := 8) hx hb hts iX10 hown hK hP 1 rfl rfl 0 (by decide) (hts _ tw_282) (fun _ h9 => h9) rfl dX11_round_4 ?_
  refine va_get (D := (dC, dI)) (ci := 0) (v := .int 0) (C := RX0) (T := TX0) (N := 16) hx hb hts iX0 hown hK hP 2 rfl rfl 0 (by decide) (hts _ tw_69) (fun _ h9 => h9) rfl dX11_round_7 ?_
  refine lv_if_eq (tgt := 22) hx hb dX11_round_10 (by decide) (fun c_1 => ?_) (fun c_1 => absurd (by decide) c_1)
  refine lv_iconst (v := (-1)) hx hb dX11_round_22 (by decide) ?_
  refine W.widen (k := 0) (n := 0) (Nat.le_of_ble_eq_true rfl) (Nat.le_of_ble_eq_true rfl) ?_
  exact W.iret (v := (-1)) hx hb hr (fun t ht hW => ⟨⟨(-1), (), rfl, rfl, trivial⟩, hS.F ht⟩) hS.2.2 dX11_round_23
set_option maxHeartbeats 4000000 in
set_option maxRecDepth 100000 in
theorem c_falls (l : Launch) (dC : Nat → ClassId) (dI : Nat → Nat → Nat) (h0 : Nat) (tp : Nat) (cr : Nat) (rr : Nat) (ra : Nat) (nw : Nat) (im : Nat) (ps : Nat) (po : Nat) (dy : Nat) (cn : Nat) (tr : Nat) (ns : Nat) (nd : Nat) (nb : Nat) (nc : Nat) (nc0 : Nat) (nc1 : Nat) (nc2 : Nat) (nc3 : Nat) (nc4 : Nat) (nc5 : Nat) (nc6 : Nat) (nc7 : Nat) (nc8 : Nat) (nc9 : Nat) (a0 : Int32) (a1 : Int32) (sz : Nat) : Met l yX11_falls (ws_u yX11_falls cX11_falls 4 (some .int)) ({ frames := 2, cells := 0, slots := 0, locals := 42 }) (va_Pc [.ref h0, .int a0, .int a1] (cPre (dC, dI) [] [(h0, .inr (11, [.ref tp, .ref cr, .ref rr, .ref ra, .int 0, .ref nw, .ref im, .ref ps, .ref po, .ref dy, .ref cn, .ref tr])), (nw, .inr (10, [.ref nc, .ref ns, .int (-1), .int 0, .int 0, .ref nd, .ref nb, .int 0])), (nc, .inr (0, [.int 0, .int 0, .int 0, .int 0, .int 0, .int 0, .ref nc0, .ref nc1, .ref nc2, .ref nc3, .ref nc4, .ref nc5, .ref nc6, .ref nc7, .ref nc8, .ref nc9]))] sz)) (va_Qi (fun (r : Int32) (_ : Unit) => r = (-1)) (fun _ _ => True) (va_A [(h0, .inr (11, [.ref tp, .ref cr, .ref rr, .ref ra, .int 0, .ref nw, .ref im, .ref ps, .ref po, .ref dy, .ref cn, .ref tr])), (nw, .inr (10, [.ref nc, .ref ns, .int (-1), .int 0, .int 0, .ref nd, .ref nb, .int 0])), (nc, .inr (0, [.int 0, .int 0, .int 0, .int 0, .int 0, .int 0, .ref nc0, .ref nc1, .ref nc2, .ref nc3, .ref nc4, .ref nc5, .ref nc6, .ref nc7, .ref nc8, .ref nc9]))] sz)) 0 0 (va_A [(h0, .inr (11, [.ref tp, .ref cr, .ref rr, .ref ra, .int 0, .ref nw, .ref im, .ref ps, .ref po, .ref dy, .ref cn, .ref tr])), (nw, .inr (10, [.ref nc, .ref ns, .int (-1), .int 0, .int 0, .ref nd, .ref nb, .int 0])), (nc, .inr (0, [.int 0, .int 0, .int 0, .int 0, .int 0, .int 0, .ref nc0, .ref nc1, .ref nc2, .ref nc3, .ref nc4, .ref nc5, .ref nc6, .ref nc7, .ref nc8, .ref nc9]))] sz) := by
  refine Met.ofW (cc := cX11_falls) (maxL := 4) (ret := (some .int)) (by decide) rfl ?_
  intro p e s m args below meth c s₁ B hml hv
  obtain ⟨rfl, hsz, hP, hK, hD0, hE⟩ := hv
  have hx := B.exec
  have hb := B.bytes
  have hr := B.returns
  have hts0 := atoms_spec (ws := ws_u yX11_falls cX11_falls 4 (some .int)) B.pre
  have hts : ∀ w ∈ gT, w.before _ s = true := fun w h => hts0 w (List.mem_cons_of_mem _ h)
  have hown : s.vm.findClass RX11 = some m.cls := findClass_of_methodNamed B.named
  have hlocks := B.notSynchronized
  subst hsz
  have hD := hD0.self (sz := s.heap.size)
  generalize hAe : va_A [(h0, .inr (11, [.ref tp, .ref cr, .ref rr, .ref ra, .int 0, .ref nw, .ref im, .ref ps, .ref po, .ref dy, .ref cn, .ref tr])), (nw, .inr (10, [.ref nc, .ref ns, .int (-1), .int 0, .int 0, .ref nd, .ref nb, .int 0])), (nc, .inr (0, [.int 0, .int 0, .int 0, .int 0, .int 0, .int 0, .ref nc0, .ref nc1, .ref nc2, .ref nc3, .ref nc4, .ref nc5, .ref nc6, .ref nc7, .ref nc8, .ref nc9]))] s.heap.size = A at hD ⊢
  have hA : ∀ q : Nat, s.heap.size ≤ q → A q := fun q h => by rw [← hAe]; exact Or.inr h
  have hS : va_S A s.heap s.heap [] := va_S.rf
  have hl := lv_entry ([.ref h0, .int a0, .int a1]) (n := 4) (Nat.le_of_ble_eq_true rfl)
  rw [lg_entry_eq]
  generalize (lg_sl ([.ref h0, .int a0, .int a1]) ++ List.replicate (4 - (lg_sl ([.ref h0, .int a0, .int a1])).length) Slot.unset).toArray = ls at hl ⊢
  have hl : lv_has ls 4 [(0, .ref h0), (1, .int a0), (2, .int a1)] := hl
  have hP : va_P (dC, dI) vwCl [(h0, .inr (11, [.ref tp, .ref cr, .ref rr, .ref ra, .int 0, .ref nw, .ref im, .ref ps, .ref po, .ref dy, .ref cn, .ref tr])), (nw, .inr (10, [.ref nc, .ref ns, .int (-1), .int 0, .int 0, .ref nd, .ref nb, .int 0])), (nc, .inr (0, [.int 0, .int 0, .int 0, .int 0, .int 0, .int 0, .ref nc0, .ref nc1, .ref nc2, .ref nc3, .ref nc4, .ref nc5, .ref nc6, .ref nc7, .ref nc8, .ref nc9]))] s.heap := hP
  try clear hAe
  refine lv_aload_n hx hb dX11_falls_0 rfl (lv_at hl 0 rfl) ?_
  refine lv_iload_n hx hb dX11_falls_1 rfl (lv_at hl 1 rfl) ?_
  have hPc := hP.sub (ws' := [(h0, .inr (11, [.ref tp, .ref cr, .ref rr, .ref ra, .int 0, .ref nw, .ref im, .ref ps, .ref po, .ref dy, .ref cn, .ref tr])), (nw, .inr (10, [.ref nc, .ref ns, .int (-1), .int 0, .int 0, .ref nd, .ref nb, .int 0])), (nc, .inr (0, [.int 0, .int 0, .int 0, .int 0, .int 0, .int 0, .ref nc0, .ref nc1, .ref nc2, .ref nc3, .ref nc4, .ref nc5, .ref nc6, .ref nc7, .ref nc8, .ref nc9]))]) [0, 1, 2] rfl
  have hDc := hD.sub (ws' := [(h0, .inr (11, [.ref tp, .ref cr, .ref rr, .ref ra, .int 0, .ref nw, .ref im, .ref ps, .ref po, .ref dy, .ref cn, .ref tr])), (nw, .inr (10, [.ref nc, .ref ns, .int (-1), .int 0, .int 0, .ref nd, .ref nb, .int 0])), (nc, .inr (0, [.int 0, .int 0, .int 0, .int 0, .int 0, .int 0, .ref nc0, .ref nc1, .ref nc2, .ref nc3, .ref nc4, .ref nc5, .ref nc6, .ref nc7, .ref nc8, .ref nc9]))]) [0, 1, 2] (by decide) rfl
  have hKc := hK.sub (tys' := []) [] rfl
  have hFc := va_free (wc := [(h0, .inr (11, [.ref tp, .ref cr, .ref rr, .ref ra, .int 0, .ref nw, .ref im, .ref ps, .ref po, .ref dy, .ref cn, .ref tr])), (nw, .inr (10, [.ref nc, .ref ns, .int (-1), .int 0, .int 0, .ref nd, .ref nb, .int 0])), (nc, .inr (0, [.int 0, .int 0, .int 0, .int 0, .int 0, .int 0, .ref nc0, .ref nc1, .ref nc2, .ref nc3, .ref nc4, .ref nc5, .ref nc6, .ref nc7, .ref nc8, .ref nc9]))]) hD hS hA [0, 1, 2] rfl
  refine va_calli (va_runV (As := [.int a0]) (rest := []) ⟨hx, hb, hml, hown, hts⟩ (c_isAlive l dC dI h0 tp cr rr ra nw im ps po dy cn tr ns nd nb nc nc0 nc1 nc2 nc3 nc4 nc5 nc6 nc7 nc8 nc9 a0  s.heap.size) (cwV 1 hts (gUV tw_870 tw_872 ts_1_14 tw_1 tw_873) rfl rfl rfl (by decide +kernel) ⟨(Nat.le_of_ble_eq_true rfl), (Nat.le_of_ble_eq_true rfl)⟩) ⟨cPre.blind, va_recv hKc hPc (ci := 11) (q0 := 0) rfl rfl, cPre.use hPc hKc hDc hE⟩ rfl rfl hl.1 rfl (lv_room (Nat.le_of_ble_eq_true rfl)) dX11_falls_2 ⟨(Nat.le_of_ble_eq_true rfl), (Nat.le_of_ble_eq_true rfl)⟩) hS (fun q _ h => hFc q h) hFc (fun r_1 u t H1 locs ht hvm hw hB hz1 hk1 hS => ?_)
  obtain ⟨hP1, hK1, hD1⟩ := hB
  rw [ht] at hP1
  obtain ⟨hP, hD⟩ := va_join (wr := []) (w1 := [(h0, .inr (11, [.ref tp, .ref cr, .ref rr, .ref ra, .int 0, .ref nw, .ref im, .ref ps, .ref po, .ref dy, .ref cn, .ref tr])), (nw, .inr (10, [.ref nc, .ref ns, .int (-1), .int 0, .int 0, .ref nd, .ref nb, .int 0])), (nc, .inr (0, [.int 0, .int 0, .int 0, .int 0, .int 0, .int 0, .ref nc0, .ref nc1, .ref nc2, .ref nc3, .ref nc4, .ref nc5, .ref nc6, .ref nc7, .ref nc8, .ref nc9]))]) hP hD [0, 1, 2] [] rfl rfl (by decide) (by decide) hk1 hFc hP1 hD1
  generalize H1 = H at hP hS ⊢
  have hP : va_P (dC, dI) vwCl [(h0, .inr (11, [.ref tp, .ref cr, .ref rr, .ref ra, .int 0, .ref nw, .ref im, .ref ps, .ref po, .ref dy, .ref cn, .ref tr])), (nw, .inr (10, [.ref nc, .ref ns, .int (-1), .int 0, .int 0, .ref nd, .ref nb, .int 0])), (nc, .inr (0, [.int 0, .int 0, .int 0, .int 0, .int 0, .int 0, .ref nc0, .ref nc1, .ref nc2, .ref nc3, .ref nc4, .ref nc5, .ref nc6, .ref nc7, .ref nc8, .ref nc9]))] H := hP
  have hD : va_D A [(h0, .inr (11, [.ref tp, .ref cr, .ref rr, .ref ra, .int 0, .ref nw, .ref im, .ref ps, .ref po, .ref dy, .ref cn, .ref tr])), (nw, .inr (10, [.ref nc, .ref ns, .int (-1), .int 0, .int 0, .ref nd, .ref nb, .int 0])), (nc, .inr (0, [.int 0, .int 0, .int 0, .int 0, .int 0, .int 0, .ref nc0, .ref nc1, .ref nc2, .ref nc3, .ref nc4, .ref nc5, .ref nc6, .ref nc7, .ref nc8, .ref nc9]))] := hD
  obtain rfl : r_1 = 0 := hw
  refine lv_if_eq (tgt := 19) hx hb dX11_falls_5 (by decide) (fun c_2 => ?_) (fun c_2 => absurd (by decide) c_2)
  refine lv_iconst (v := (-1)) hx hb dX11_falls_19 (by decide) ?_
  refine W.widen (k := 0) (n := 0) (Nat.le_of_ble_eq_true rfl) (Nat.le_of_ble_eq_true rfl) ?_
  exact W.iret (v := (-1)) hx hb hr (fun t ht hW => ⟨⟨(-1), (), rfl, rfl, trivial⟩, hS.F ht⟩) hS.2.2 dX11_falls_20
set_option maxHeartbeats 4000000 in
set_option maxRecDepth 100000 in
theorem c_likely (l : Launch) (dC : Nat → ClassId) (dI : Nat → Nat → Nat) (h0 : Nat) (tp : Nat) (cr : Nat) (rr : Nat) (ra : Nat) (nw : Nat) (im : Nat) (ps : Nat) (po : Nat) (dy : Nat) (cn : Nat) (tr : Nat) (ns : Nat) (nd : Nat) (nb : Nat) (nc : Nat) (nc0 : Nat) (nc1 : Nat) (nc2 : Nat) (nc3 : Nat) (nc4 : Nat) (nc5 : Nat) (nc6 : Nat) (nc7 : Nat) (nc8 : Nat) (nc9 : Nat) (a0 : Int32) (a1 : Int32) (sz : Nat) : Met l yX11_likely (ws_u yX11_likely cX11_likely 5 (some .int)) ({ frames := 2, cells := 0, slots := 0, locals := 42 }) (va_Pc [.ref h0, .int a0, .int a1] (cPre (dC, dI) [] [(h0, .inr (11, [.ref tp, .ref cr, .ref rr, .ref ra, .int 0, .ref nw, .ref im, .ref ps, .ref po, .ref dy, .ref cn, .ref tr])), (nw, .inr (10, [.ref nc, .ref ns, .int (-1), .int 0, .int 0, .ref nd, .ref nb, .int 0])), (nc, .inr (0, [.int 0, .int 0, .int 0, .int 0, .int 0, .int 0, .ref nc0, .ref nc1, .ref nc2, .ref nc3, .ref nc4, .ref nc5, .ref nc6, .ref nc7, .ref nc8, .ref nc9]))] sz)) (va_Qi (fun (r : Int32) (_ : Unit) => r = (-1)) (fun _ _ => True) (va_A [(h0, .inr (11, [.ref tp, .ref cr, .ref rr, .ref ra, .int 0, .ref nw, .ref im, .ref ps, .ref po, .ref dy, .ref cn, .ref tr])), (nw, .inr (10, [.ref nc, .ref ns, .int (-1), .int 0, .int 0, .ref nd, .ref nb, .int 0])), (nc, .inr (0, [.int 0, .int 0, .int 0, .int 0, .int 0, .int 0, .ref nc0, .ref nc1, .ref nc2, .ref nc3, .ref nc4, .ref nc5, .ref nc6, .ref nc7, .ref nc8, .ref nc9]))] sz)) 0 0 (va_A [(h0, .inr (11, [.ref tp, .ref cr, .ref rr, .ref ra, .int 0, .ref nw, .ref im, .ref ps, .ref po, .ref dy, .ref cn, .ref tr])), (nw, .inr (10, [.ref nc, .ref ns, .int (-1), .int 0, .int 0, .ref nd, .ref nb, .int 0])), (nc, .inr (0, [.int 0, .int 0, .int 0, .int 0, .int 0, .int 0, .ref nc0, .ref nc1, .ref nc2, .ref nc3, .ref nc4, .ref nc5, .ref nc6, .ref nc7, .ref nc8, .ref nc9]))] sz) := by
  refine Met.ofW (cc := cX11_likely) (maxL := 5) (ret := (some .int)) (by decide) rfl ?_
  intro p e s m args below meth c s₁ B hml hv
  obtain ⟨rfl, hsz, hP, hK, hD0, hE⟩ := hv
  have hx := B.exec
  have hb := B.bytes
  have hr := B.returns
  have hts0 := atoms_spec (ws := ws_u yX11_likely cX11_likely 5 (some .int)) B.pre
  have hts : ∀ w ∈ gT, w.before _ s = true := fun w h => hts0 w (List.mem_cons_of_mem _ h)
  have hown : s.vm.findClass RX11 = some m.cls := findClass_of_methodNamed B.named
  have hlocks := B.notSynchronized
  subst hsz
  have hD := hD0.self (sz := s.heap.size)
  generalize hAe : va_A [(h0, .inr (11, [.ref tp, .ref cr, .ref rr, .ref ra, .int 0, .ref nw, .ref im, .ref ps, .ref po, .ref dy, .ref cn, .ref tr])), (nw, .inr (10, [.ref nc, .ref ns, .int (-1), .int 0, .int 0, .ref nd, .ref nb, .int 0])), (nc, .inr (0, [.int 0, .int 0, .int 0, .int 0, .int 0, .int 0, .ref nc0, .ref nc1, .ref nc2, .ref nc3, .ref nc4, .ref nc5, .ref nc6, .ref nc7, .ref nc8, .ref nc9]))] s.heap.size = A at hD ⊢
  have hA : ∀ q : Nat, s.heap.size ≤ q → A q := fun q h => by rw [← hAe]; exact Or.inr h
  have hS : va_S A s.heap s.heap [] := va_S.rf
  have hl := lv_entry ([.ref h0, .int a0, .int a1]) (n := 5) (Nat.le_of_ble_eq_true rfl)
  rw [lg_entry_eq]
  generalize (lg_sl ([.ref h0, .int a0, .int a1]) ++ List.replicate (5 - (lg_sl ([.ref h0, .int a0, .int a1])).length) Slot.unset).toArray = ls at hl ⊢
  have hl : lv_has ls 5 [(0, .ref h0), (1, .int a0), (2, .int a1)] := hl
  have hP : va_P (dC, dI) vwCl [(h0, .inr (11, [.ref tp, .ref cr, .ref rr, .ref ra, .int 0, .ref nw, .ref im, .ref ps, .ref po, .ref dy, .ref cn, .ref tr])), (nw, .inr (10, [.ref nc, .ref ns, .int (-1), .int 0, .int 0, .ref nd, .ref nb, .int 0])), (nc, .inr (0, [.int 0, .int 0, .int 0, .int 0, .int 0, .int 0, .ref nc0, .ref nc1, .ref nc2, .ref nc3, .ref nc4, .ref nc5, .ref nc6, .ref nc7, .ref nc8, .ref nc9]))] s.heap := hP
  try clear hAe
  refine lv_aload_n hx hb dX11_likely_0 rfl (lv_at hl 0 rfl) ?_
  refine lv_iload_n hx hb dX11_likely_1 rfl (lv_at hl 1 rfl) ?_
  have hPc := hP.sub (ws' := [(h0, .inr (11, [.ref tp, .ref cr, .ref rr, .ref ra, .int 0, .ref nw, .ref im, .ref ps, .ref po, .ref dy, .ref cn, .ref tr])), (nw, .inr (10, [.ref nc, .ref ns, .int (-1), .int 0, .int 0, .ref nd, .ref nb, .int 0])), (nc, .inr (0, [.int 0, .int 0, .int 0, .int 0, .int 0, .int 0, .ref nc0, .ref nc1, .ref nc2, .ref nc3, .ref nc4, .ref nc5, .ref nc6, .ref nc7, .ref nc8, .ref nc9]))]) [0, 1, 2] rfl
  have hDc := hD.sub (ws' := [(h0, .inr (11, [.ref tp, .ref cr, .ref rr, .ref ra, .int 0, .ref nw, .ref im, .ref ps, .ref po, .ref dy, .ref cn, .ref tr])), (nw, .inr (10, [.ref nc, .ref ns, .int (-1), .int 0, .int 0, .ref nd, .ref nb, .int 0])), (nc, .inr (0, [.int 0, .int 0, .int 0, .int 0, .int 0, .int 0, .ref nc0, .ref nc1, .ref nc2, .ref nc3, .ref nc4, .ref nc5, .ref nc6, .ref nc7, .ref nc8, .ref nc9]))]) [0, 1, 2] (by decide) rfl
  have hKc := hK.sub (tys' := []) [] rfl
  have hFc := va_free (wc := [(h0, .inr (11, [.ref tp, .ref cr, .ref rr, .ref ra, .int 0, .ref nw, .ref im, .ref ps, .ref po, .ref dy, .ref cn, .ref tr])), (nw, .inr (10, [.ref nc, .ref ns, .int (-1), .int 0, .int 0, .ref nd, .ref nb, .int 0])), (nc, .inr (0, [.int 0, .int 0, .int 0, .int 0, .int 0, .int 0, .ref nc0, .ref nc1, .ref nc2, .ref nc3, .ref nc4, .ref nc5, .ref nc6, .ref nc7, .ref nc8, .ref nc9]))]) hD hS hA [0, 1, 2] rfl
  refine va_calli (va_runV (As := [.int a0]) (rest := []) ⟨hx, hb, hml, hown, hts⟩ (c_isAlive l dC dI h0 tp cr rr ra nw im ps po dy cn tr ns nd nb nc nc0 nc1 nc2 nc3 nc4 nc5 nc6 nc7 nc8 nc9 a0  s.heap.size) (cwV 1 hts (gUV tw_870 tw_872 ts_1_14 tw_1 tw_873) rfl rfl rfl (by decide +kernel) ⟨(Nat.le_of_ble_eq_true rfl), (Nat.le_of_ble_eq_true rfl)⟩) ⟨cPre.blind, va_recv hKc hPc (ci := 11) (q0 := 0) rfl rfl, cPre.use hPc hKc hDc hE⟩ rfl rfl hl.1 rfl (lv_room (Nat.le_of_ble_eq_true rfl)) dX11_likely_2 ⟨(Nat.le_of_ble_eq_true rfl), (Nat.le_of_ble_eq_true rfl)⟩) hS (fun q _ h => hFc q h) hFc (fun r_1 u t H1 locs ht hvm hw hB hz1 hk1 hS => ?_)
  obtain ⟨hP1, hK1, hD1⟩ := hB
  rw [ht] at hP1
  obtain ⟨hP, hD⟩ := va_join (wr := []) (w1 := [(h0, .inr (11, [.ref tp, .ref cr, .ref rr, .ref ra, .int 0, .ref nw, .ref im, .ref ps, .ref po, .ref dy, .ref cn, .ref tr])), (nw, .inr (10, [.ref nc, .ref ns, .int (-1), .int 0, .int 0, .ref nd, .ref nb, .int 0])), (nc, .inr (0, [.int 0, .int 0, .int 0, .int 0, .int 0, .int 0, .ref nc0, .ref nc1, .ref nc2, .ref nc3, .ref nc4, .ref nc5, .ref nc6, .ref nc7, .ref nc8, .ref nc9]))]) hP hD [0, 1, 2] [] rfl rfl (by decide) (by decide) hk1 hFc hP1 hD1
  generalize H1 = H at hP hS ⊢
  have hP : va_P (dC, dI) vwCl [(h0, .inr (11, [.ref tp, .ref cr, .ref rr, .ref ra, .int 0, .ref nw, .ref im, .ref ps, .ref po, .ref dy, .ref cn, .ref tr])), (nw, .inr (10, [.ref nc, .ref ns, .int (-1), .int 0, .int 0, .ref nd, .ref nb, .int 0])), (nc, .inr (0, [.int 0, .int 0, .int 0, .int 0, .int 0, .int 0, .ref nc0, .ref nc1, .ref nc2, .ref nc3, .ref nc4, .ref nc5, .ref nc6, .ref nc7, .ref nc8, .ref nc9]))] H := hP
  have hD : va_D A [(h0, .inr (11, [.ref tp, .ref cr, .ref rr, .ref ra, .int 0, .ref nw, .ref im, .ref ps, .ref po, .ref dy, .ref cn, .ref tr])), (nw, .inr (10, [.ref nc, .ref ns, .int (-1), .int 0, .int 0, .ref nd, .ref nb, .int 0])), (nc, .inr (0, [.int 0, .int 0, .int 0, .int 0, .int 0, .int 0, .ref nc0, .ref nc1, .ref nc2, .ref nc3, .ref nc4, .ref nc5, .ref nc6, .ref nc7, .ref nc8, .ref nc9]))] := hD
  obtain rfl : r_1 = 0 := hw
  refine lv_if_eq (tgt := 19) hx hb dX11_likely_5 (by decide) (fun c_2 => ?_) (fun c_2 => absurd (by decide) c_2)
  refine lv_iconst (v := (-1)) hx hb dX11_likely_19 (by decide) ?_
  refine W.widen (k := 0) (n := 0) (Nat.le_of_ble_eq_true rfl) (Nat.le_of_ble_eq_true rfl) ?_
  exact W.iret (v := (-1)) hx hb hr (fun t ht hW => ⟨⟨(-1), (), rfl, rfl, trivial⟩, hS.F ht⟩) hS.2.2 dX11_likely_20
set_option maxHeartbeats 4000000 in
set_option maxRecDepth 100000 in
theorem c_best (l : Launch) (dC : Nat → ClassId) (dI : Nat → Nat → Nat) (h0 : Nat) (tp : Nat) (cr : Nat) (rr : Nat) (ra : Nat) (nw : Nat) (im : Nat) (ps : Nat) (po : Nat) (dy : Nat) (cn : Nat) (tr : Nat) (ns : Nat) (nd : Nat) (nb : Nat) (nc : Nat) (nc0 : Nat) (nc1 : Nat) (nc2 : Nat) (nc3 : Nat) (nc4 : Nat) (nc5 : Nat) (nc6 : Nat) (nc7 : Nat) (nc8 : Nat) (nc9 : Nat) (a0 : Int32) (sz : Nat) : Met l yX11_best (ws_u yX11_best cX11_best 3 (some .int)) ({ frames := 0, cells := 0, slots := 0, locals := 0 }) (va_Pc [.ref h0, .int a0] (cPre (dC, dI) [] [(h0, .inr (11, [.ref tp, .ref cr, .ref rr, .ref ra, .int 0, .ref nw, .ref im, .ref ps, .ref po, .ref dy, .ref cn, .ref tr])), (nw, .inr (10, [.ref nc, .ref ns, .int (-1), .int 0, .int 0, .ref nd, .ref nb, .int 0])), (nc, .inr (0, [.int 0, .int 0, .int 0, .int 0, .int 0, .int 0, .ref nc0, .ref nc1, .ref nc2, .ref nc3, .ref nc4, .ref nc5, .ref nc6, .ref nc7, .ref nc8, .ref nc9]))] sz)) (va_Qi (fun (r : Int32) (_ : Unit) => r = (-1)) (fun _ _ => True) (va_A [(h0, .inr (11, [.ref tp, .ref cr, .ref rr, .ref ra, .int 0, .ref nw, .ref im, .ref ps, .ref po, .ref dy, .ref cn, .ref tr])), (nw, .inr (10, [.ref nc, .ref ns, .int (-1), .int 0, .int 0, .ref nd, .ref nb, .int 0])), (nc, .inr (0, [.int 0, .int 0, .int 0, .int 0, .int 0, .int 0, .ref nc0, .ref nc1, .ref nc2, .ref nc3, .ref nc4, .ref nc5, .ref nc6, .ref nc7, .ref nc8, .ref nc9]))] sz)) 0 0 (va_A [(h0, .inr (11, [.ref tp, .ref cr, .ref rr, .ref ra, .int 0, .ref nw, .ref im, .ref ps, .ref po, .ref dy, .ref cn, .ref tr])), (nw, .inr (10, [.ref nc, .ref ns, .int (-1), .int 0, .int 0, .ref nd, .ref nb, .int 0])), (nc, .inr (0, [.int 0, .int 0, .int 0, .int 0, .int 0, .int 0, .ref nc0, .ref nc1, .ref nc2, .ref nc3, .ref nc4, .ref nc5, .ref nc6, .ref nc7, .ref nc8, .ref nc9]))] sz) := by
  refine Met.ofW (cc := cX11_best) (maxL := 3) (ret := (some .int)) (by decide) rfl ?_
  intro p e s m args below meth c s₁ B hml hv
  obtain ⟨rfl, hsz, hP, hK, hD0, hE⟩ := hv
  have hx := B.exec
  have hb := B.bytes
  have hr := B.returns
  have hts0 := atoms_spec (ws := ws_u yX11_best cX11_best 3 (some .int)) B.pre
  have hts : ∀ w ∈ gT, w.before _ s = true := fun w h => hts0 w (List.mem_cons_of_mem _ h)
  have hown : s.vm.findClass RX11 = some m.cls := findClass_of_methodNamed B.named
  have hlocks := B.notSynchronized
  subst hsz
  have hD := hD0.self (sz := s.heap.size)
  generalize hAe : va_A [(h0, .inr (11, [.ref tp, .ref cr, .ref rr, .ref ra, .int 0, .ref nw, .ref im, .ref ps, .ref po, .ref dy, .ref cn, .ref tr])), (nw, .inr (10, [.ref nc, .ref ns, .int (-1), .int 0, .int 0, .ref nd, .ref nb, .int 0])), (nc, .inr (0, [.int 0, .int 0, .int 0, .int 0, .int 0, .int 0, .ref nc0, .ref nc1, .ref nc2, .ref nc3, .ref nc4, .ref nc5, .ref nc6, .ref nc7, .ref nc8, .ref nc9]))] s.heap.size = A at hD ⊢
  have hA : ∀ q : Nat, s.heap.size ≤ q → A q := fun q h => by rw [← hAe]; exact Or.inr h
  have hS : va_S A s.heap s.heap [] := va_S.rf
  have hl := lv_entry ([.ref h0, .int a0]) (n := 3) (Nat.le_of_ble_eq_true rfl)
  rw [lg_entry_eq]
  generalize (lg_sl ([.ref h0, .int a0]) ++ List.replicate (3 - (lg_sl ([.ref h0, .int a0])).length) Slot.unset).toArray = ls at hl ⊢
  have hl : lv_has ls 3 [(0, .ref h0), (1, .int a0)] := hl
  have hP : va_P (dC, dI) vwCl [(h0, .inr (11, [.ref tp, .ref cr, .ref rr, .ref ra, .int 0, .ref nw, .ref im, .ref ps, .ref po, .ref dy, .ref cn, .ref tr])), (nw, .inr (10, [.ref nc, .ref ns, .int (-1), .int 0, .int 0, .ref nd, .ref nb, .int 0])), (nc, .inr (0, [.int 0, .int 0, .int 0, .int 0, .int 0, .int 0, .ref nc0, .ref nc1, .ref nc2, .ref nc3, .ref nc4, .ref nc5, .ref nc6, .ref nc7, .ref nc8, .ref nc9]))] s.heap := hP
  try clear hAe
  refine lv_aload_n hx hb dX11_best_0 rfl (lv_at hl 0 rfl) ?_
  refine va_get (D := (dC, dI)) (ci := 11) (v := .ref nw) (C := RX11) (T := TX11) (N := 12) hx hb hts iX11 hown hK hP 0 rfl rfl 5 (by decide) (hts _ tw_428) (fun _ h9 => h9) rfl dX11_best_1 ?_
  refine va_get (D := (dC, dI)) (ci := 10) (v := .ref nc) (C := RX10) (T := TX10) (N := 8) hx hb hts iX10 hown hK hP 1 rfl rfl 0 (by decide) (hts _ tw_282) (fun _ h9 => h9) rfl dX11_best_4 ?_
  refine va_get (D := (dC, dI)) (ci := 0) (v := .int 0) (C := RX0) (T := TX0) (N := 16) hx hb hts iX0 hown hK hP 2 rfl rfl 0 (by decide) (hts _ tw_69) (fun _ h9 => h9) rfl dX11_best_7 ?_
  refine lv_if_eq (tgt := 22) hx hb dX11_best_10 (by decide) (fun c_1 => ?_) (fun c_1 => absurd (by decide) c_1)
  refine lv_iconst (v := (-1)) hx hb dX11_best_22 (by decide) ?_
  refine W.widen (k := 0) (n := 0) (Nat.le_of_ble_eq_true rfl) (Nat.le_of_ble_eq_true rfl) ?_
  exact W.iret (v := (-1)) hx hb hr (fun t ht hW => ⟨⟨(-1), (), rfl, rfl, trivial⟩, hS.F ht⟩) hS.2.2 dX11_best_23
set_option maxHeartbeats 4000000 in
set_option maxRecDepth 100000 in
theorem c_ruled (l : Launch) (dC : Nat → ClassId) (dI : Nat → Nat → Nat) (h0 : Nat) (tp : Nat) (cr : Nat) (rr : Nat) (ra : Nat) (nw : Nat) (im : Nat) (ps : Nat) (po : Nat) (dy : Nat) (cn : Nat) (tr : Nat) (ns : Nat) (nd : Nat) (nb : Nat) (nc : Nat) (nc0 : Nat) (nc1 : Nat) (nc2 : Nat) (nc3 : Nat) (nc4 : Nat) (nc5 : Nat) (nc6 : Nat) (nc7 : Nat) (nc8 : Nat) (nc9 : Nat) (a0 : Int32) (sz : Nat) : Met l yX11_ruled (ws_u yX11_ruled cX11_ruled 2 (some .int)) ({ frames := 0, cells := 0, slots := 0, locals := 0 }) (va_Pc [.ref h0, .int a0] (cPre (dC, dI) [] [(h0, .inr (11, [.ref tp, .ref cr, .ref rr, .ref ra, .int 0, .ref nw, .ref im, .ref ps, .ref po, .ref dy, .ref cn, .ref tr])), (nw, .inr (10, [.ref nc, .ref ns, .int (-1), .int 0, .int 0, .ref nd, .ref nb, .int 0])), (nc, .inr (0, [.int 0, .int 0, .int 0, .int 0, .int 0, .int 0, .ref nc0, .ref nc1, .ref nc2, .ref nc3, .ref nc4, .ref nc5, .ref nc6, .ref nc7, .ref nc8, .ref nc9]))] sz)) (va_Qi (fun (r : Int32) (_ : Unit) => r = (-3)) (fun _ _ => True) (va_A [(h0, .inr (11, [.ref tp, .ref cr, .ref rr, .ref ra, .int 0, .ref nw, .ref im, .ref ps, .ref po, .ref dy, .ref cn, .ref tr])), (nw, .inr (10, [.ref nc, .ref ns, .int (-1), .int 0, .int 0, .ref nd, .ref nb, .int 0])), (nc, .inr (0, [.int 0, .int 0, .int 0, .int 0, .int 0, .int 0, .ref nc0, .ref nc1, .ref nc2, .ref nc3, .ref nc4, .ref nc5, .ref nc6, .ref nc7, .ref nc8, .ref nc9]))] sz)) 0 0 (va_A [(h0, .inr (11, [.ref tp, .ref cr, .ref rr, .ref ra, .int 0, .ref nw, .ref im, .ref ps, .ref po, .ref dy, .ref cn, .ref tr])), (nw, .inr (10, [.ref nc, .ref ns, .int (-1), .int 0, .int 0, .ref nd, .ref nb, .int 0])), (nc, .inr (0, [.int 0, .int 0, .int 0, .int 0, .int 0, .int 0, .ref nc0, .ref nc1, .ref nc2, .ref nc3, .ref nc4, .ref nc5, .ref nc6, .ref nc7, .ref nc8, .ref nc9]))] sz) := by
  refine Met.ofW (cc := cX11_ruled) (maxL := 2) (ret := (some .int)) (by decide) rfl ?_
  intro p e s m args below meth c s₁ B hml hv
  obtain ⟨rfl, hsz, hP, hK, hD0, hE⟩ := hv
  have hx := B.exec
  have hb := B.bytes
  have hr := B.returns
  have hts0 := atoms_spec (ws := ws_u yX11_ruled cX11_ruled 2 (some .int)) B.pre
  have hts : ∀ w ∈ gT, w.before _ s = true := fun w h => hts0 w (List.mem_cons_of_mem _ h)
  have hown : s.vm.findClass RX11 = some m.cls := findClass_of_methodNamed B.named
  have hlocks := B.notSynchronized
  subst hsz
  have hD := hD0.self (sz := s.heap.size)
  generalize hAe : va_A [(h0, .inr (11, [.ref tp, .ref cr, .ref rr, .ref ra, .int 0, .ref nw, .ref im, .ref ps, .ref po, .ref dy, .ref cn, .ref tr])), (nw, .inr (10, [.ref nc, .ref ns, .int (-1), .int 0, .int 0, .ref nd, .ref nb, .int 0])), (nc, .inr (0, [.int 0, .int 0, .int 0, .int 0, .int 0, .int 0, .ref nc0, .ref nc1, .ref nc2, .ref nc3, .ref nc4, .ref nc5, .ref nc6, .ref nc7, .ref nc8, .ref nc9]))] s.heap.size = A at hD ⊢
  have hA : ∀ q : Nat, s.heap.size ≤ q → A q := fun q h => by rw [← hAe]; exact Or.inr h
  have hS : va_S A s.heap s.heap [] := va_S.rf
  have hl := lv_entry ([.ref h0, .int a0]) (n := 2) (Nat.le_of_ble_eq_true rfl)
  rw [lg_entry_eq]
  generalize (lg_sl ([.ref h0, .int a0]) ++ List.replicate (2 - (lg_sl ([.ref h0, .int a0])).length) Slot.unset).toArray = ls at hl ⊢
  have hl : lv_has ls 2 [(0, .ref h0), (1, .int a0)] := hl
  have hP : va_P (dC, dI) vwCl [(h0, .inr (11, [.ref tp, .ref cr, .ref rr, .ref ra, .int 0, .ref nw, .ref im, .ref ps, .ref po, .ref dy, .ref cn, .ref tr])), (nw, .inr (10, [.ref nc, .ref ns, .int (-1), .int 0, .int 0, .ref nd, .ref nb, .int 0])), (nc, .inr (0, [.int 0, .int 0, .int 0, .int 0, .int 0, .int 0, .ref nc0, .ref nc1, .ref nc2, .ref nc3, .ref nc4, .ref nc5, .ref nc6, .ref nc7, .ref nc8, .ref nc9]))] s.heap := hP
  try clear hAe
  refine lv_aload_n hx hb dX11_ruled_0 rfl (lv_at hl 0 rfl) ?_
  refine va_get (D := (dC, dI)) (ci := 11) (v := .ref nw) (C := RX11) (T := TX11) (N := 12) hx hb hts iX11 hown hK hP 0 rfl rfl 5 (by decide) (hts _ tw_428) (fun _ h9 => h9) rfl dX11_ruled_1 ?_
  refine va_get (D := (dC, dI)) (ci := 10) (v := .ref nc) (C := RX10) (T := TX10) (N := 8) hx hb hts iX10 hown hK hP 1 rfl rfl 0 (by decide) (hts _ tw_282) (fun _ h9 => h9) rfl dX11_ruled_4 ?_
  refine va_get (D := (dC, dI)) (ci := 0) (v := .int 0) (C := RX0) (T := TX0) (N := 16) hx hb hts iX0 hown hK hP 2 rfl rfl 0 (by decide) (hts _ tw_69) (fun _ h9 => h9) rfl dX11_ruled_7 ?_
  refine lv_if_eq (tgt := 22) hx hb dX11_ruled_10 (by decide) (fun c_1 => ?_) (fun c_1 => absurd (by decide) c_1)
  refine lv_bipush (v := (-3)) hx hb dX11_ruled_22 (by decide) ?_
  refine W.widen (k := 0) (n := 0) (Nat.le_of_ble_eq_true rfl) (Nat.le_of_ble_eq_true rfl) ?_
  exact W.iret (v := (-3)) hx hb hr (fun t ht hW => ⟨⟨(-3), (), rfl, rfl, trivial⟩, hS.F ht⟩) hS.2.2 dX11_ruled_24
set_option maxHeartbeats 4000000 in
set_option maxRecDepth 100000 in
theorem c_look (l : Launch) (dC : Nat → ClassId) (dI : Nat → Nat → Nat) (h0 : Nat) (tp : Nat) (cr : Nat) (rr : Nat) (ra : Nat) (nw : Nat) (im : Nat) (ps : Nat) (po : Nat) (dy : Nat) (cn : Nat) (tr : Nat) (ns : Nat) (nd : Nat) (nb : Nat) (nc : Nat) (nc0 : Nat) (nc1 : Nat) (nc2 : Nat) (nc3 : Nat) (nc4 : Nat) (nc5 : Nat) (nc6 : Nat) (nc7 : Nat) (nc8 : Nat) (nc9 : Nat) (a0 : Int32) (sz : Nat) : Met l yX11_look (ws_u yX11_look cX11_look 3 (some .int)) ({ frames := 0, cells := 0, slots := 0, locals := 0 }) (va_Pc [.ref h0, .int a0] (cPre (dC, dI) [] [(h0, .inr (11, [.ref tp, .ref cr, .ref rr, .ref ra, .int 0, .ref nw, .ref im, .ref ps, .ref po, .ref dy, .ref cn, .ref tr])), (nw, .inr (10, [.ref nc, .ref ns, .int (-1), .int 0, .int 0, .ref nd, .ref nb, .int 0])), (nc, .inr (0, [.int 0, .int 0, .int 0, .int 0, .int 0, .int 0, .ref nc0, .ref nc1, .ref nc2, .ref nc3, .ref nc4, .ref nc5, .ref nc6, .ref nc7, .ref nc8, .ref nc9]))] sz)) (va_Qi (fun (r : Int32) (_ : Unit) => r = (-1)) (fun _ _ => True) (va_A [(h0, .inr (11, [.ref tp, .ref cr, .ref rr, .ref ra, .int 0, .ref nw, .ref im, .ref ps, .ref po, .ref dy, .ref cn, .ref tr])), (nw, .inr (10, [.ref nc, .ref ns, .int (-1), .int 0, .int 0, .ref nd, .ref nb, .int 0])), (nc, .inr (0, [.int 0, .int 0, .int 0, .int 0, .int 0, .int 0, .ref nc0, .ref nc1, .ref nc2, .ref nc3, .ref nc4, .ref nc5, .ref nc6, .ref nc7, .ref nc8, .ref nc9]))] sz)) 0 0 (va_A [(h0, .inr (11, [.ref tp, .ref cr, .ref rr, .ref ra, .int 0, .ref nw, .ref im, .ref ps, .ref po, .ref dy, .ref cn, .ref tr])), (nw, .inr (10, [.ref nc, .ref ns, .int (-1), .int 0, .int 0, .ref nd, .ref nb, .int 0])), (nc, .inr (0, [.int 0, .int 0, .int 0, .int 0, .int 0, .int 0, .ref nc0, .ref nc1, .ref nc2, .ref nc3, .ref nc4, .ref nc5, .ref nc6, .ref nc7, .ref nc8, .ref nc9]))] sz) := by
  refine Met.ofW (cc := cX11_look) (maxL := 3) (ret := (some .int)) (by decide) rfl ?_
  intro p e s m args below meth c s₁ B hml hv
  obtain ⟨rfl, hsz, hP, hK, hD0, hE⟩ := hv
  have hx := B.exec
  have hb := B.bytes
  have hr := B.returns
  have hts0 := atoms_spec (ws := ws_u yX11_look cX11_look 3 (some .int)) B.pre
  have hts : ∀ w ∈ gT, w.before _ s = true := fun w h => hts0 w (List.mem_cons_of_mem _ h)
  have hown : s.vm.findClass RX11 = some m.cls := findClass_of_methodNamed B.named
  have hlocks := B.notSynchronized
  subst hsz
  have hD := hD0.self (sz := s.heap.size)
  generalize hAe : va_A [(h0, .inr (11, [.ref tp, .ref cr, .ref rr, .ref ra, .int 0, .ref nw, .ref im, .ref ps, .ref po, .ref dy, .ref cn, .ref tr])), (nw, .inr (10, [.ref nc, .ref ns, .int (-1), .int 0, .int 0, .ref nd, .ref nb, .int 0])), (nc, .inr (0, [.int 0, .int 0, .int 0, .int 0, .int 0, .int 0, .ref nc0, .ref nc1, .ref nc2, .ref nc3, .ref nc4, .ref nc5, .ref nc6, .ref nc7, .ref nc8, .ref nc9]))] s.heap.size = A at hD ⊢
  have hA : ∀ q : Nat, s.heap.size ≤ q → A q := fun q h => by rw [← hAe]; exact Or.inr h
  have hS : va_S A s.heap s.heap [] := va_S.rf
  have hl := lv_entry ([.ref h0, .int a0]) (n := 3) (Nat.le_of_ble_eq_true rfl)
  rw [lg_entry_eq]
  generalize (lg_sl ([.ref h0, .int a0]) ++ List.replicate (3 - (lg_sl ([.ref h0, .int a0])).length) Slot.unset).toArray = ls at hl ⊢
  have hl : lv_has ls 3 [(0, .ref h0), (1, .int a0)] := hl
  have hP : va_P (dC, dI) vwCl [(h0, .inr (11, [.ref tp, .ref cr, .ref rr, .ref ra, .int 0, .ref nw, .ref im, .ref ps, .ref po, .ref dy, .ref cn, .ref tr])), (nw, .inr (10, [.ref nc, .ref ns, .int (-1), .int 0, .int 0, .ref nd, .ref nb, .int 0])), (nc, .inr (0, [.int 0, .int 0, .int 0, .int 0, .int 0, .int 0, .ref nc0, .ref nc1, .ref nc2, .ref nc3, .ref nc4, .ref nc5, .ref nc6, .ref nc7, .ref nc8, .ref nc9]))] s.heap := hP
  try clear hAe
  refine lv_aload_n hx hb dX11_look_0 rfl (lv_at hl 0 rfl) ?_
  refine va_get (D := (dC, dI)) (ci := 11) (v := .ref nw) (C := RX11) (T := TX11) (N := 12) hx hb hts iX11 hown hK hP 0 rfl rfl 5 (by decide) (hts _ tw_428) (fun _ h9 => h9) rfl dX11_look_1 ?_
  refine va_get (D := (dC, dI)) (ci := 10) (v := .ref nc) (C := RX10) (T := TX10) (N := 8) hx hb hts iX10 hown hK hP 1 rfl rfl 0 (by decide) (hts _ tw_282) (fun _ h9 => h9) rfl dX11_look_4 ?_
  refine va_get (D := (dC, dI)) (ci := 0) (v := .int 0) (C := RX0) (T := TX0) (N := 16) hx hb hts iX0 hown hK hP 2 rfl rfl 0 (by decide) (hts _ tw_69) (fun _ h9 => h9) rfl dX11_look_7 ?_
  refine lv_if_eq (tgt := 22) hx hb dX11_look_10 (by decide) (fun c_1 => ?_) (fun c_1 => absurd (by decide) c_1)
  refine lv_iconst (v := (-1)) hx hb dX11_look_22 (by decide) ?_
  refine W.widen (k := 0) (n := 0) (Nat.le_of_ble_eq_true rfl) (Nat.le_of_ble_eq_true rfl) ?_
  exact W.iret (v := (-1)) hx hb hr (fun t ht hW => ⟨⟨(-1), (), rfl, rfl, trivial⟩, hS.F ht⟩) hS.2.2 dX11_look_23
set_option maxHeartbeats 4000000 in
set_option maxRecDepth 100000 in
theorem c_winters (l : Launch) (dC : Nat → ClassId) (dI : Nat → Nat → Nat) (h0 : Nat) (tp : Nat) (cr : Nat) (rr : Nat) (ra : Nat) (nw : Nat) (im : Nat) (ps : Nat) (po : Nat) (dy : Nat) (cn : Nat) (tr : Nat) (ns : Nat) (nd : Nat) (nb : Nat) (nc : Nat) (nc0 : Nat) (nc1 : Nat) (nc2 : Nat) (nc3 : Nat) (nc4 : Nat) (nc5 : Nat) (nc6 : Nat) (nc7 : Nat) (nc8 : Nat) (nc9 : Nat) (a0 : Int32) (a1 : Int32) (a2 : Int32) (a3 : Int32) (sz : Nat) : Met l yX11_winters (ws_u yX11_winters cX11_winters 6 (some .int)) ({ frames := 0, cells := 0, slots := 0, locals := 0 }) (va_Pc [.ref h0, .int a0, .int a1, .int a2, .int a3] (cPre (dC, dI) [] [(h0, .inr (11, [.ref tp, .ref cr, .ref rr, .ref ra, .int 0, .ref nw, .ref im, .ref ps, .ref po, .ref dy, .ref cn, .ref tr])), (nw, .inr (10, [.ref nc, .ref ns, .int (-1), .int 0, .int 0, .ref nd, .ref nb, .int 0])), (nc, .inr (0, [.int 0, .int 0, .int 0, .int 0, .int 0, .int 0, .ref nc0, .ref nc1, .ref nc2, .ref nc3, .ref nc4, .ref nc5, .ref nc6, .ref nc7, .ref nc8, .ref nc9]))] sz)) (va_Qi (fun (r : Int32) (_ : Unit) => r = (-1)) (fun _ _ => True) (va_A [(h0, .inr (11, [.ref tp, .ref cr, .ref rr, .ref ra, .int 0, .ref nw, .ref im, .ref ps, .ref po, .ref dy, .ref cn, .ref tr])), (nw, .inr (10, [.ref nc, .ref ns, .int (-1), .int 0, .int 0, .ref nd, .ref nb, .int 0])), (nc, .inr (0, [.int 0, .int 0, .int 0, .int 0, .int 0, .int 0, .ref nc0, .ref nc1, .ref nc2, .ref nc3, .ref nc4, .ref nc5, .ref nc6, .ref nc7, .ref nc8, .ref nc9]))] sz)) 0 0 (va_A [(h0, .inr (11, [.ref tp, .ref cr, .ref rr, .ref ra, .int 0, .ref nw, .ref im, .ref ps, .ref po, .ref dy, .ref cn, .ref tr])), (nw, .inr (10, [.ref nc, .ref ns, .int (-1), .int 0, .int 0, .ref nd, .ref nb, .int 0])), (nc, .inr (0, [.int 0, .int 0, .int 0, .int 0, .int 0, .int 0, .ref nc0, .ref nc1, .ref nc2, .ref nc3, .ref nc4, .ref nc5, .ref nc6, .ref nc7, .ref nc8, .ref nc9]))] sz) := by
  refine Met.ofW (cc := cX11_winters) (maxL := 6) (ret := (some .int)) (by decide) rfl ?_
  intro p e s m args below meth c s₁ B hml hv
  obtain ⟨rfl, hsz, hP, hK, hD0, hE⟩ := hv
  have hx := B.exec
  have hb := B.bytes
  have hr := B.returns
  have hts0 := atoms_spec (ws := ws_u yX11_winters cX11_winters 6 (some .int)) B.pre
  have hts : ∀ w ∈ gT, w.before _ s = true := fun w h => hts0 w (List.mem_cons_of_mem _ h)
  have hown : s.vm.findClass RX11 = some m.cls := findClass_of_methodNamed B.named
  have hlocks := B.notSynchronized
  subst hsz
  have hD := hD0.self (sz := s.heap.size)
  generalize hAe : va_A [(h0, .inr (11, [.ref tp, .ref cr, .ref rr, .ref ra, .int 0, .ref nw, .ref im, .ref ps, .ref po, .ref dy, .ref cn, .ref tr])), (nw, .inr (10, [.ref nc, .ref ns, .int (-1), .int 0, .int 0, .ref nd, .ref nb, .int 0])), (nc, .inr (0, [.int 0, .int 0, .int 0, .int 0, .int 0, .int 0, .ref nc0, .ref nc1, .ref nc2, .ref nc3, .ref nc4, .ref nc5, .ref nc6, .ref nc7, .ref nc8, .ref nc9]))] s.heap.size = A at hD ⊢
  have hA : ∀ q : Nat, s.heap.size ≤ q → A q := fun q h => by rw [← hAe]; exact Or.inr h
  have hS : va_S A s.heap s.heap [] := va_S.rf
  have hl := lv_entry ([.ref h0, .int a0, .int a1, .int a2, .int a3]) (n := 6) (Nat.le_of_ble_eq_true rfl)
  rw [lg_entry_eq]
  generalize (lg_sl ([.ref h0, .int a0, .int a1, .int a2, .int a3]) ++ List.replicate (6 - (lg_sl ([.ref h0, .int a0, .int a1, .int a2, .int a3])).length) Slot.unset).toArray = ls at hl ⊢
  have hl : lv_has ls 6 [(0, .ref h0), (1, .int a0), (2, .int a1), (3, .int a2), (4, .int a3)] := hl
  have hP : va_P (dC, dI) vwCl [(h0, .inr (11, [.ref tp, .ref cr, .ref rr, .ref ra, .int 0, .ref nw, .ref im, .ref ps, .ref po, .ref dy, .ref cn, .ref tr])), (nw, .inr (10, [.ref nc, .ref ns, .int (-1), .int 0, .int 0, .ref nd, .ref nb, .int 0])), (nc, .inr (0, [.int 0, .int 0, .int 0, .int 0, .int 0, .int 0, .ref nc0, .ref nc1, .ref nc2, .ref nc3, .ref nc4, .ref nc5, .ref nc6, .ref nc7, .ref nc8, .ref nc9]))] s.heap := hP
  try clear hAe
  refine lv_aload_n hx hb dX11_winters_0 rfl (lv_at hl 0 rfl) ?_
  refine va_get (D := (dC, dI)) (ci := 11) (v := .ref nw) (C := RX11) (T := TX11) (N := 12) hx hb hts iX11 hown hK hP 0 rfl rfl 5 (by decide) (hts _ tw_428) (fun _ h9 => h9) rfl dX11_winters_1 ?_
  refine va_get (D := (dC, dI)) (ci := 10) (v := .ref nc) (C := RX10) (T := TX10) (N := 8) hx hb hts iX10 hown hK hP 1 rfl rfl 0 (by decide) (hts _ tw_282) (fun _ h9 => h9) rfl dX11_winters_4 ?_
  refine va_get (D := (dC, dI)) (ci := 0) (v := .int 0) (C := RX0) (T := TX0) (N := 16) hx hb hts iX0 hown hK hP 2 rfl rfl 0 (by decide) (hts _ tw_69) (fun _ h9 => h9) rfl dX11_winters_7 ?_
  refine lv_if_eq (tgt := 35) hx hb dX11_winters_10 (by decide) (fun c_1 => ?_) (fun c_1 => absurd (by decide) c_1)
  refine lv_iconst (v := (-1)) hx hb dX11_winters_35 (by decide) ?_
  refine W.widen (k := 0) (n := 0) (Nat.le_of_ble_eq_true rfl) (Nat.le_of_ble_eq_true rfl) ?_
  exact W.iret (v := (-1)) hx hb hr (fun t ht hW => ⟨⟨(-1), (), rfl, rfl, trivial⟩, hS.F ht⟩) hS.2.2 dX11_winters_36
set_option maxHeartbeats 4000000 in
set_option maxRecDepth 100000 in
theorem c_note (l : Launch) (dC : Nat → ClassId) (dI : Nat → Nat → Nat) (h0 : Nat) (tp : Nat) (cr : Nat) (rr : Nat) (ra : Nat) (nw : Nat) (im : Nat) (ps : Nat) (po : Nat) (dy : Nat) (cn : Nat) (tr : Nat) (ns : Nat) (nd : Nat) (nb : Nat) (nc : Nat) (nc0 : Nat) (nc1 : Nat) (nc2 : Nat) (nc3 : Nat) (nc4 : Nat) (nc5 : Nat) (nc6 : Nat) (nc7 : Nat) (nc8 : Nat) (nc9 : Nat) (a0 : Int32) (a1 : Int32) (sz : Nat) : Met l yX11_note (ws_u yX11_note cX11_note 3 (some .int)) ({ frames := 0, cells := 0, slots := 0, locals := 0 }) (va_Pc [.ref h0, .int a0, .int a1] (cPre (dC, dI) [] [(h0, .inr (11, [.ref tp, .ref cr, .ref rr, .ref ra, .int 0, .ref nw, .ref im, .ref ps, .ref po, .ref dy, .ref cn, .ref tr])), (nw, .inr (10, [.ref nc, .ref ns, .int (-1), .int 0, .int 0, .ref nd, .ref nb, .int 0])), (nc, .inr (0, [.int 0, .int 0, .int 0, .int 0, .int 0, .int 0, .ref nc0, .ref nc1, .ref nc2, .ref nc3, .ref nc4, .ref nc5, .ref nc6, .ref nc7, .ref nc8, .ref nc9]))] sz)) (va_Qi (fun (r : Int32) (_ : Unit) => r = f_note a0) (fun _ _ => True) (va_A [(h0, .inr (11, [.ref tp, .ref cr, .ref rr, .ref ra, .int 0, .ref nw, .ref im, .ref ps, .ref po, .ref dy, .ref cn, .ref tr])), (nw, .inr (10, [.ref nc, .ref ns, .int (-1), .int 0, .int 0, .ref nd, .ref nb, .int 0])), (nc, .inr (0, [.int 0, .int 0, .int 0, .int 0, .int 0, .int 0, .ref nc0, .ref nc1, .ref nc2, .ref nc3, .ref nc4, .ref nc5, .ref nc6, .ref nc7, .ref nc8, .ref nc9]))] sz)) 0 0 (va_A [(h0, .inr (11, [.ref tp, .ref cr, .ref rr, .ref ra, .int 0, .ref nw, .ref im, .ref ps, .ref po, .ref dy, .ref cn, .ref tr])), (nw, .inr (10, [.ref nc, .ref ns, .int (-1), .int 0, .int 0, .ref nd, .ref nb, .int 0])), (nc, .inr (0, [.int 0, .int 0, .int 0, .int 0, .int 0, .int 0, .ref nc0, .ref nc1, .ref nc2, .ref nc3, .ref nc4, .ref nc5, .ref nc6, .ref nc7, .ref nc8, .ref nc9]))] sz) := by
  refine Met.ofW (cc := cX11_note) (maxL := 3) (ret := (some .int)) (by decide) rfl ?_
  intro p e s m args below meth c s₁ B hml hv
  obtain ⟨rfl, hsz, hP, hK, hD0, hE⟩ := hv
  have hx := B.exec
  have hb := B.bytes
  have hr := B.returns
  have hts0 := atoms_spec (ws := ws_u yX11_note cX11_note 3 (some .int)) B.pre
  have hts : ∀ w ∈ gT, w.before _ s = true := fun w h => hts0 w (List.mem_cons_of_mem _ h)
  have hown : s.vm.findClass RX11 = some m.cls := findClass_of_methodNamed B.named
  have hlocks := B.notSynchronized
  subst hsz
  have hD := hD0.self (sz := s.heap.size)
  generalize hAe : va_A [(h0, .inr (11, [.ref tp, .ref cr, .ref rr, .ref ra, .int 0, .ref nw, .ref im, .ref ps, .ref po, .ref dy, .ref cn, .ref tr])), (nw, .inr (10, [.ref nc, .ref ns, .int (-1), .int 0, .int 0, .ref nd, .ref nb, .int 0])), (nc, .inr (0, [.int 0, .int 0, .int 0, .int 0, .int 0, .int 0, .ref nc0, .ref nc1, .ref nc2, .ref nc3, .ref nc4, .ref nc5, .ref nc6, .ref nc7, .ref nc8, .ref nc9]))] s.heap.size = A at hD ⊢
  have hA : ∀ q : Nat, s.heap.size ≤ q → A q := fun q h => by rw [← hAe]; exact Or.inr h
  have hS : va_S A s.heap s.heap [] := va_S.rf
  have hl := lv_entry ([.ref h0, .int a0, .int a1]) (n := 3) (Nat.le_of_ble_eq_true rfl)
  rw [lg_entry_eq]
  generalize (lg_sl ([.ref h0, .int a0, .int a1]) ++ List.replicate (3 - (lg_sl ([.ref h0, .int a0, .int a1])).length) Slot.unset).toArray = ls at hl ⊢
  have hl : lv_has ls 3 [(0, .ref h0), (1, .int a0), (2, .int a1)] := hl
  have hP : va_P (dC, dI) vwCl [(h0, .inr (11, [.ref tp, .ref cr, .ref rr, .ref ra, .int 0, .ref nw, .ref im, .ref ps, .ref po, .ref dy, .ref cn, .ref tr])), (nw, .inr (10, [.ref nc, .ref ns, .int (-1), .int 0, .int 0, .ref nd, .ref nb, .int 0])), (nc, .inr (0, [.int 0, .int 0, .int 0, .int 0, .int 0, .int 0, .ref nc0, .ref nc1, .ref nc2, .ref nc3, .ref nc4, .ref nc5, .ref nc6, .ref nc7, .ref nc8, .ref nc9]))] s.heap := hP
  try clear hAe
  refine lv_iload_n hx hb dX11_note_0 rfl (lv_at hl 1 rfl) ?_
  refine lv_iconst (v := (-1)) hx hb dX11_note_1 (by decide) ?_
  refine lv_icmp_ne (tgt := 15) hx hb dX11_note_2 (by decide) (fun c_1 => ?_) (fun c_1 => ?_)
  · refine lv_aload_n hx hb dX11_note_15 rfl (lv_at hl 0 rfl) ?_
    refine va_get (D := (dC, dI)) (ci := 11) (v := .ref nw) (C := RX11) (T := TX11) (N := 12) hx hb hts iX11 hown hK hP 0 rfl rfl 5 (by decide) (hts _ tw_428) (fun _ h9 => h9) rfl dX11_note_16 ?_
    refine va_get (D := (dC, dI)) (ci := 10) (v := .ref nc) (C := RX10) (T := TX10) (N := 8) hx hb hts iX10 hown hK hP 1 rfl rfl 0 (by decide) (hts _ tw_282) (fun _ h9 => h9) rfl dX11_note_19 ?_
    refine va_get (D := (dC, dI)) (ci := 0) (v := .int 0) (C := RX0) (T := TX0) (N := 16) hx hb hts iX0 hown hK hP 2 rfl rfl 0 (by decide) (hts _ tw_69) (fun _ h9 => h9) rfl dX11_note_22 ?_
    refine lv_if_eq (tgt := 63) hx hb dX11_note_25 (by decide) (fun c_2 => ?_) (fun c_2 => absurd (by decide) c_2)
    refine lv_bipush (v := (-2)) hx hb dX11_note_63 (by decide) ?_
    refine W.widen (k := 0) (n := 0) (Nat.le_of_ble_eq_true rfl) (Nat.le_of_ble_eq_true rfl) ?_
    exact W.iret (v := (-2)) hx hb hr (fun t ht hW => ⟨⟨(-2), (), rfl, (by unfold f_note; split <;> rename_i hh <;> first | rfl | (simp only [fa_lt, fa_le, fa_eq, li_m2, li_m1, li_0, li_3] at c_1 hh ⊢; first | done | omega)), trivial⟩, hS.F ht⟩) hS.2.2 dX11_note_65
  · refine lv_aload_n hx hb dX11_note_5 rfl (lv_at hl 0 rfl) ?_
    refine va_get (D := (dC, dI)) (ci := 11) (v := .ref nw) (C := RX11) (T := TX11) (N := 12) hx hb hts iX11 hown hK hP 0 rfl rfl 5 (by decide) (hts _ tw_428) (fun _ h9 => h9) rfl dX11_note_6 ?_
    refine lv_iconst (v := 0) hx hb dX11_note_9 (by decide) ?_
    refine va_put (D := (dC, dI)) (ci := 10) (v := .int 0) (C := RX10) (T := TX10) (N := 8) hx hb hts iX10 tyX10 tyX10_ok nmX10 hown hK hP hD hS 1 rfl rfl 4 (by decide) (hts _ tw_292) (fun _ h9 => h9) rfl (tyX10_ok 4 (by decide)) rfl rfl (Nat.le_of_ble_eq_true rfl) dX11_note_10 (fun H locs hP hD hS => ?_)
    have hP : va_P (dC, dI) vwCl [(h0, .inr (11, [.ref tp, .ref cr, .ref rr, .ref ra, .int 0, .ref nw, .ref im, .ref ps, .ref po, .ref dy, .ref cn, .ref tr])), (nw, .inr (10, [.ref nc, .ref ns, .int (-1), .int 0, .int 0, .ref nd, .ref nb, .int 0])), (nc, .inr (0, [.int 0, .int 0, .int 0, .int 0, .int 0, .int 0, .ref nc0, .ref nc1, .ref nc2, .ref nc3, .ref nc4, .ref nc5, .ref nc6, .ref nc7, .ref nc8, .ref nc9]))] H := hP
    have hD : va_D A [(h0, .inr (11, [.ref tp, .ref cr, .ref rr, .ref ra, .int 0, .ref nw, .ref im, .ref ps, .ref po, .ref dy, .ref cn, .ref tr])), (nw, .inr (10, [.ref nc, .ref ns, .int (-1), .int 0, .int 0, .ref nd, .ref nb, .int 0])), (nc, .inr (0, [.int 0, .int 0, .int 0, .int 0, .int 0, .int 0, .ref nc0, .ref nc1, .ref nc2, .ref nc3, .ref nc4, .ref nc5, .ref nc6, .ref nc7, .ref nc8, .ref nc9]))] := hD
    refine lv_iconst (v := 0) hx hb dX11_note_13 (by decide) ?_
    refine W.widen (k := 0) (n := 0) (Nat.le_of_ble_eq_true rfl) (Nat.le_of_ble_eq_true rfl) ?_
    exact W.iret (v := 0) hx hb hr (fun t ht hW => ⟨⟨0, (), rfl, (by unfold f_note; split <;> rename_i hh <;> first | rfl | (simp only [fa_lt, fa_le, fa_eq, li_m2, li_m1, li_0, li_3] at c_1 hh ⊢; first | done | omega)), trivial⟩, hS.F ht⟩) hS.2.2 dX11_note_14
set_option maxHeartbeats 4000000 in
set_option maxRecDepth 100000 in
theorem c_seed (l : Launch) (dC : Nat → ClassId) (dI : Nat → Nat → Nat) (h0 : Nat) (tp : Nat) (cr : Nat) (rr : Nat) (ra : Nat) (nw : Nat) (im : Nat) (ps : Nat) (po : Nat) (dy : Nat) (cn : Nat) (tr : Nat) (ns : Nat) (nd : Nat) (nb : Nat) (nc : Nat) (nc0 : Nat) (nc1 : Nat) (nc2 : Nat) (nc3 : Nat) (nc4 : Nat) (nc5 : Nat) (nc6 : Nat) (nc7 : Nat) (nc8 : Nat) (nc9 : Nat) (a0 : Int32) (sz : Nat) : Met l yX11_seed (ws_u yX11_seed cX11_seed 3 (some .int)) ({ frames := 0, cells := 0, slots := 0, locals := 0 }) (va_Pc [.ref h0, .int a0] (cPre (dC, dI) [] [(h0, .inr (11, [.ref tp, .ref cr, .ref rr, .ref ra, .int 0, .ref nw, .ref im, .ref ps, .ref po, .ref dy, .ref cn, .ref tr])), (nw, .inr (10, [.ref nc, .ref ns, .int (-1), .int 0, .int 0, .ref nd, .ref nb, .int 0])), (nc, .inr (0, [.int 0, .int 0, .int 0, .int 0, .int 0, .int 0, .ref nc0, .ref nc1, .ref nc2, .ref nc3, .ref nc4, .ref nc5, .ref nc6, .ref nc7, .ref nc8, .ref nc9]))] sz)) (va_Qi (fun (r : Int32) (_ : Unit) => r = f_seed a0) (fun _ _ => True) (va_A [(h0, .inr (11, [.ref tp, .ref cr, .ref rr, .ref ra, .int 0, .ref nw, .ref im, .ref ps, .ref po, .ref dy, .ref cn, .ref tr])), (nw, .inr (10, [.ref nc, .ref ns, .int (-1), .int 0, .int 0, .ref nd, .ref nb, .int 0])), (nc, .inr (0, [.int 0, .int 0, .int 0, .int 0, .int 0, .int 0, .ref nc0, .ref nc1, .ref nc2, .ref nc3, .ref nc4, .ref nc5, .ref nc6, .ref nc7, .ref nc8, .ref nc9]))] sz)) 0 0 (va_A [(h0, .inr (11, [.ref tp, .ref cr, .ref rr, .ref ra, .int 0, .ref nw, .ref im, .ref ps, .ref po, .ref dy, .ref cn, .ref tr])), (nw, .inr (10, [.ref nc, .ref ns, .int (-1), .int 0, .int 0, .ref nd, .ref nb, .int 0])), (nc, .inr (0, [.int 0, .int 0, .int 0, .int 0, .int 0, .int 0, .ref nc0, .ref nc1, .ref nc2, .ref nc3, .ref nc4, .ref nc5, .ref nc6, .ref nc7, .ref nc8, .ref nc9]))] sz) := by
  refine Met.ofW (cc := cX11_seed) (maxL := 3) (ret := (some .int)) (by decide) rfl ?_
  intro p e s m args below meth c s₁ B hml hv
  obtain ⟨rfl, hsz, hP, hK, hD0, hE⟩ := hv
  have hx := B.exec
  have hb := B.bytes
  have hr := B.returns
  have hts0 := atoms_spec (ws := ws_u yX11_seed cX11_seed 3 (some .int)) B.pre
  have hts : ∀ w ∈ gT, w.before _ s = true := fun w h => hts0 w (List.mem_cons_of_mem _ h)
  have hown : s.vm.findClass RX11 = some m.cls := findClass_of_methodNamed B.named
  have hlocks := B.notSynchronized
  subst hsz
  have hD := hD0.self (sz := s.heap.size)
  generalize hAe : va_A [(h0, .inr (11, [.ref tp, .ref cr, .ref rr, .ref ra, .int 0, .ref nw, .ref im, .ref ps, .ref po, .ref dy, .ref cn, .ref tr])), (nw, .inr (10, [.ref nc, .ref ns, .int (-1), .int 0, .int 0, .ref nd, .ref nb, .int 0])), (nc, .inr (0, [.int 0, .int 0, .int 0, .int 0, .int 0, .int 0, .ref nc0, .ref nc1, .ref nc2, .ref nc3, .ref nc4, .ref nc5, .ref nc6, .ref nc7, .ref nc8, .ref nc9]))] s.heap.size = A at hD ⊢
  have hA : ∀ q : Nat, s.heap.size ≤ q → A q := fun q h => by rw [← hAe]; exact Or.inr h
  have hS : va_S A s.heap s.heap [] := va_S.rf
  have hl := lv_entry ([.ref h0, .int a0]) (n := 3) (Nat.le_of_ble_eq_true rfl)
  rw [lg_entry_eq]
  generalize (lg_sl ([.ref h0, .int a0]) ++ List.replicate (3 - (lg_sl ([.ref h0, .int a0])).length) Slot.unset).toArray = ls at hl ⊢
  have hl : lv_has ls 3 [(0, .ref h0), (1, .int a0)] := hl
  have hP : va_P (dC, dI) vwCl [(h0, .inr (11, [.ref tp, .ref cr, .ref rr, .ref ra, .int 0, .ref nw, .ref im, .ref ps, .ref po, .ref dy, .ref cn, .ref tr])), (nw, .inr (10, [.ref nc, .ref ns, .int (-1), .int 0, .int 0, .ref nd, .ref nb, .int 0])), (nc, .inr (0, [.int 0, .int 0, .int 0, .int 0, .int 0, .int 0, .ref nc0, .ref nc1, .ref nc2, .ref nc3, .ref nc4, .ref nc5, .ref nc6, .ref nc7, .ref nc8, .ref nc9]))] s.heap := hP
  try clear hAe
  refine lv_iload_n hx hb dX11_seed_0 rfl (lv_at hl 1 rfl) ?_
  refine lv_if_ge (tgt := 6) hx hb dX11_seed_1 (by decide) (fun c_1 => ?_) (fun c_1 => ?_)
  · refine lv_aload_n hx hb dX11_seed_6 rfl (lv_at hl 0 rfl) ?_
    refine va_get (D := (dC, dI)) (ci := 11) (v := .ref nw) (C := RX11) (T := TX11) (N := 12) hx hb hts iX11 hown hK hP 0 rfl rfl 5 (by decide) (hts _ tw_428) (fun _ h9 => h9) rfl dX11_seed_7 ?_
    refine va_get (D := (dC, dI)) (ci := 10) (v := .int 0) (C := RX10) (T := TX10) (N := 8) hx hb hts iX10 hown hK hP 1 rfl rfl 3 (by decide) (hts _ tw_289) (fun _ h9 => h9) rfl dX11_seed_10 ?_
    refine lv_istore_n (lv' := [(2, .int 0), (0, .ref h0), (1, .int a0)]) hx hb dX11_seed_13 rfl hl (by decide) rfl (fun ls hl => ?_)
    refine lv_aload_n hx hb dX11_seed_14 rfl (lv_at hl 1 rfl) ?_
    refine va_get (D := (dC, dI)) (ci := 11) (v := .ref nw) (C := RX11) (T := TX11) (N := 12) hx hb hts iX11 hown hK hP 0 rfl rfl 5 (by decide) (hts _ tw_428) (fun _ h9 => h9) rfl dX11_seed_15 ?_
    refine lv_iload_n hx hb dX11_seed_18 rfl (lv_at hl 2 rfl) ?_
    refine va_put (D := (dC, dI)) (ci := 10) (v := .int a0) (C := RX10) (T := TX10) (N := 8) hx hb hts iX10 tyX10 tyX10_ok nmX10 hown hK hP hD hS 1 rfl rfl 3 (by decide) (hts _ tw_289) (fun _ h9 => h9) rfl (tyX10_ok 3 (by decide)) rfl rfl (Nat.le_of_ble_eq_true rfl) dX11_seed_19 (fun H locs hP hD hS => ?_)
    have hP : va_P (dC, dI) vwCl [(h0, .inr (11, [.ref tp, .ref cr, .ref rr, .ref ra, .int 0, .ref nw, .ref im, .ref ps, .ref po, .ref dy, .ref cn, .ref tr])), (nw, .inr (10, [.ref nc, .ref ns, .int (-1), .int a0, .int 0, .ref nd, .ref nb, .int 0])), (nc, .inr (0, [.int 0, .int 0, .int 0, .int 0, .int 0, .int 0, .ref nc0, .ref nc1, .ref nc2, .ref nc3, .ref nc4, .ref nc5, .ref nc6, .ref nc7, .ref nc8, .ref nc9]))] H := hP
    have hD : va_D A [(h0, .inr (11, [.ref tp, .ref cr, .ref rr, .ref ra, .int 0, .ref nw, .ref im, .ref ps, .ref po, .ref dy, .ref cn, .ref tr])), (nw, .inr (10, [.ref nc, .ref ns, .int (-1), .int a0, .int 0, .ref nd, .ref nb, .int 0])), (nc, .inr (0, [.int 0, .int 0, .int 0, .int 0, .int 0, .int 0, .ref nc0, .ref nc1, .ref nc2, .ref nc3, .ref nc4, .ref nc5, .ref nc6, .ref nc7, .ref nc8, .ref nc9]))] := hD
    refine lv_iload_n hx hb dX11_seed_22 rfl (lv_at hl 0 rfl) ?_
    refine W.widen (k := 0) (n := 0) (Nat.le_of_ble_eq_true rfl) (Nat.le_of_ble_eq_true rfl) ?_
    exact W.iret (v := 0) hx hb hr (fun t ht hW => ⟨⟨0, (), rfl, (by unfold f_seed; split <;> rename_i hh <;> first | rfl | (simp only [fa_lt, fa_le, fa_eq, li_m2, li_m1, li_0, li_3] at c_1 hh ⊢; first | done | omega)), trivial⟩, hS.F ht⟩) hS.2.2 dX11_seed_23
  · refine lv_iconst (v := (-1)) hx hb dX11_seed_4 (by decide) ?_
    refine W.widen (k := 0) (n := 0) (Nat.le_of_ble_eq_true rfl) (Nat.le_of_ble_eq_true rfl) ?_
    exact W.iret (v := (-1)) hx hb hr (fun t ht hW => ⟨⟨(-1), (), rfl, (by unfold f_seed; split <;> rename_i hh <;> first | rfl | (simp only [fa_lt, fa_le, fa_eq, li_m2, li_m1, li_0, li_3] at c_1 hh ⊢; first | done | omega)), trivial⟩, hS.F ht⟩) hS.2.2 dX11_seed_5
set_option maxHeartbeats 4000000 in
set_option maxRecDepth 100000 in
theorem c_force (l : Launch) (dC : Nat → ClassId) (dI : Nat → Nat → Nat) (h0 : Nat) (tp : Nat) (cr : Nat) (rr : Nat) (ra : Nat) (nw : Nat) (im : Nat) (ps : Nat) (po : Nat) (dy : Nat) (cn : Nat) (tr : Nat) (ns : Nat) (nd : Nat) (nb : Nat) (nc : Nat) (nc0 : Nat) (nc1 : Nat) (nc2 : Nat) (nc3 : Nat) (nc4 : Nat) (nc5 : Nat) (nc6 : Nat) (nc7 : Nat) (nc8 : Nat) (nc9 : Nat) (a0 : Int32) (sz : Nat) : Met l yX11_force (ws_u yX11_force cX11_force 3 (some .int)) ({ frames := 0, cells := 0, slots := 0, locals := 0 }) (va_Pc [.ref h0, .int a0] (cPre (dC, dI) [] [(h0, .inr (11, [.ref tp, .ref cr, .ref rr, .ref ra, .int 0, .ref nw, .ref im, .ref ps, .ref po, .ref dy, .ref cn, .ref tr])), (nw, .inr (10, [.ref nc, .ref ns, .int (-1), .int 0, .int 0, .ref nd, .ref nb, .int 0])), (nc, .inr (0, [.int 0, .int 0, .int 0, .int 0, .int 0, .int 0, .ref nc0, .ref nc1, .ref nc2, .ref nc3, .ref nc4, .ref nc5, .ref nc6, .ref nc7, .ref nc8, .ref nc9]))] sz)) (va_Qi (fun (r : Int32) (_ : Unit) => r = f_force a0) (fun _ _ => True) (va_A [(h0, .inr (11, [.ref tp, .ref cr, .ref rr, .ref ra, .int 0, .ref nw, .ref im, .ref ps, .ref po, .ref dy, .ref cn, .ref tr])), (nw, .inr (10, [.ref nc, .ref ns, .int (-1), .int 0, .int 0, .ref nd, .ref nb, .int 0])), (nc, .inr (0, [.int 0, .int 0, .int 0, .int 0, .int 0, .int 0, .ref nc0, .ref nc1, .ref nc2, .ref nc3, .ref nc4, .ref nc5, .ref nc6, .ref nc7, .ref nc8, .ref nc9]))] sz)) 0 0 (va_A [(h0, .inr (11, [.ref tp, .ref cr, .ref rr, .ref ra, .int 0, .ref nw, .ref im, .ref ps, .ref po, .ref dy, .ref cn, .ref tr])), (nw, .inr (10, [.ref nc, .ref ns, .int (-1), .int 0, .int 0, .ref nd, .ref nb, .int 0])), (nc, .inr (0, [.int 0, .int 0, .int 0, .int 0, .int 0, .int 0, .ref nc0, .ref nc1, .ref nc2, .ref nc3, .ref nc4, .ref nc5, .ref nc6, .ref nc7, .ref nc8, .ref nc9]))] sz) := by
  refine Met.ofW (cc := cX11_force) (maxL := 3) (ret := (some .int)) (by decide) rfl ?_
  intro p e s m args below meth c s₁ B hml hv
  obtain ⟨rfl, hsz, hP, hK, hD0, hE⟩ := hv
  have hx := B.exec
  have hb := B.bytes
  have hr := B.returns
  have hts0 := atoms_spec (ws := ws_u yX11_force cX11_force 3 (some .int)) B.pre
  have hts : ∀ w ∈ gT, w.before _ s = true := fun w h => hts0 w (List.mem_cons_of_mem _ h)
  have hown : s.vm.findClass RX11 = some m.cls := findClass_of_methodNamed B.named
  have hlocks := B.notSynchronized
  subst hsz
  have hD := hD0.self (sz := s.heap.size)
  generalize hAe : va_A [(h0, .inr (11, [.ref tp, .ref cr, .ref rr, .ref ra, .int 0, .ref nw, .ref im, .ref ps, .ref po, .ref dy, .ref cn, .ref tr])), (nw, .inr (10, [.ref nc, .ref ns, .int (-1), .int 0, .int 0, .ref nd, .ref nb, .int 0])), (nc, .inr (0, [.int 0, .int 0, .int 0, .int 0, .int 0, .int 0, .ref nc0, .ref nc1, .ref nc2, .ref nc3, .ref nc4, .ref nc5, .ref nc6, .ref nc7, .ref nc8, .ref nc9]))] s.heap.size = A at hD ⊢
  have hA : ∀ q : Nat, s.heap.size ≤ q → A q := fun q h => by rw [← hAe]; exact Or.inr h
  have hS : va_S A s.heap s.heap [] := va_S.rf
  have hl := lv_entry ([.ref h0, .int a0]) (n := 3) (Nat.le_of_ble_eq_true rfl)
  rw [lg_entry_eq]
  generalize (lg_sl ([.ref h0, .int a0]) ++ List.replicate (3 - (lg_sl ([.ref h0, .int a0])).length) Slot.unset).toArray = ls at hl ⊢
  have hl : lv_has ls 3 [(0, .ref h0), (1, .int a0)] := hl
  have hP : va_P (dC, dI) vwCl [(h0, .inr (11, [.ref tp, .ref cr, .ref rr, .ref ra, .int 0, .ref nw, .ref im, .ref ps, .ref po, .ref dy, .ref cn, .ref tr])), (nw, .inr (10, [.ref nc, .ref ns, .int (-1), .int 0, .int 0, .ref nd, .ref nb, .int 0])), (nc, .inr (0, [.int 0, .int 0, .int 0, .int 0, .int 0, .int 0, .ref nc0, .ref nc1, .ref nc2, .ref nc3, .ref nc4, .ref nc5, .ref nc6, .ref nc7, .ref nc8, .ref nc9]))] s.heap := hP
  try clear hAe
  refine lv_iload_n hx hb dX11_force_0 rfl (lv_at hl 1 rfl) ?_
  refine lv_iconst (v := (-1)) hx hb dX11_force_1 (by decide) ?_
  refine lv_icmp_lt (tgt := 13) hx hb dX11_force_2 (by decide) (fun c_1 => ?_) (fun c_1 => ?_)
  · refine lv_bipush (v := (-2)) hx hb dX11_force_13 (by decide) ?_
    refine W.widen (k := 0) (n := 0) (Nat.le_of_ble_eq_true rfl) (Nat.le_of_ble_eq_true rfl) ?_
    exact W.iret (v := (-2)) hx hb hr (fun t ht hW => ⟨⟨(-2), (), rfl, (by unfold f_force; split <;> rename_i hh <;> first | rfl | (simp only [fa_lt, fa_le, fa_eq, li_m2, li_m1, li_0, li_3] at c_1 hh ⊢; first | done | omega)), trivial⟩, hS.F ht⟩) hS.2.2 dX11_force_15
  · refine lv_iload_n hx hb dX11_force_5 rfl (lv_at hl 1 rfl) ?_
    refine lv_aload_n hx hb dX11_force_6 rfl (lv_at hl 0 rfl) ?_
    refine va_get (D := (dC, dI)) (ci := 11) (v := .int 0) (C := RX11) (T := TX11) (N := 12) hx hb hts iX11 hown hK hP 0 rfl rfl 4 (by decide) (hts _ tw_427) (fun _ h9 => h9) rfl dX11_force_7 ?_
    refine lv_icmp_lt (tgt := 16) hx hb dX11_force_10 (by decide) (fun c_2 => ?_) (fun c_2 => ?_)
    · refine lv_aload_n hx hb dX11_force_16 rfl (lv_at hl 0 rfl) ?_
      refine va_get (D := (dC, dI)) (ci := 11) (v := .ref nw) (C := RX11) (T := TX11) (N := 12) hx hb hts iX11 hown hK hP 0 rfl rfl 5 (by decide) (hts _ tw_428) (fun _ h9 => h9) rfl dX11_force_17 ?_
      refine va_get (D := (dC, dI)) (ci := 10) (v := .int (-1)) (C := RX10) (T := TX10) (N := 8) hx hb hts iX10 hown hK hP 1 rfl rfl 2 (by decide) (hts _ tw_287) (fun _ h9 => h9) rfl dX11_force_20 ?_
      refine lv_istore_n (lv' := [(2, .int (-1)), (0, .ref h0), (1, .int a0)]) hx hb dX11_force_23 rfl hl (by decide) rfl (fun ls hl => ?_)
      refine lv_aload_n hx hb dX11_force_24 rfl (lv_at hl 1 rfl) ?_
      refine va_get (D := (dC, dI)) (ci := 11) (v := .ref nw) (C := RX11) (T := TX11) (N := 12) hx hb hts iX11 hown hK hP 0 rfl rfl 5 (by decide) (hts _ tw_428) (fun _ h9 => h9) rfl dX11_force_25 ?_
      refine lv_iload_n hx hb dX11_force_28 rfl (lv_at hl 2 rfl) ?_
      refine va_put (D := (dC, dI)) (ci := 10) (v := .int a0) (C := RX10) (T := TX10) (N := 8) hx hb hts iX10 tyX10 tyX10_ok nmX10 hown hK hP hD hS 1 rfl rfl 2 (by decide) (hts _ tw_287) (fun _ h9 => h9) rfl (tyX10_ok 2 (by decide)) rfl rfl (Nat.le_of_ble_eq_true rfl) dX11_force_29 (fun H locs hP hD hS => ?_)
      have hP : va_P (dC, dI) vwCl [(h0, .inr (11, [.ref tp, .ref cr, .ref rr, .ref ra, .int 0, .ref nw, .ref im, .ref ps, .ref po, .ref dy, .ref cn, .ref tr])), (nw, .inr (10, [.ref nc, .ref ns, .int a0, .int 0, .int 0, .ref nd, .ref nb, .int 0])), (nc, .inr (0, [.int 0, .int 0, .int 0, .int 0, .int 0, .int 0, .ref nc0, .ref nc1, .ref nc2, .ref nc3, .ref nc4, .ref nc5, .ref nc6, .ref nc7, .ref nc8, .ref nc9]))] H := hP
      have hD : va_D A [(h0, .inr (11, [.ref tp, .ref cr, .ref rr, .ref ra, .int 0, .ref nw, .ref im, .ref ps, .ref po, .ref dy, .ref cn, .ref tr])), (nw, .inr (10, [.ref nc, .ref ns, .int a0, .int 0, .int 0, .ref nd, .ref nb, .int 0])), (nc, .inr (0, [.int 0, .int 0, .int 0, .int 0, .int 0, .int 0, .ref nc0, .ref nc1, .ref nc2, .ref nc3, .ref nc4, .ref nc5, .ref nc6, .ref nc7, .ref nc8, .ref nc9]))] := hD
      refine lv_iload_n hx hb dX11_force_32 rfl (lv_at hl 0 rfl) ?_
      refine W.widen (k := 0) (n := 0) (Nat.le_of_ble_eq_true rfl) (Nat.le_of_ble_eq_true rfl) ?_
      exact W.iret (v := (-1)) hx hb hr (fun t ht hW => ⟨⟨(-1), (), rfl, (by unfold f_force; split <;> rename_i hh <;> first | rfl | (simp only [fa_lt, fa_le, fa_eq, li_m2, li_m1, li_0, li_3] at c_1 c_2 hh ⊢; first | done | omega)), trivial⟩, hS.F ht⟩) hS.2.2 dX11_force_33
    · refine lv_bipush (v := (-2)) hx hb dX11_force_13 (by decide) ?_
      refine W.widen (k := 0) (n := 0) (Nat.le_of_ble_eq_true rfl) (Nat.le_of_ble_eq_true rfl) ?_
      exact W.iret (v := (-2)) hx hb hr (fun t ht hW => ⟨⟨(-2), (), rfl, (by unfold f_force; split <;> rename_i hh <;> first | rfl | (simp only [fa_lt, fa_le, fa_eq, li_m2, li_m1, li_0, li_3] at c_1 c_2 hh ⊢; first | done | omega)), trivial⟩, hS.F ht⟩) hS.2.2 dX11_force_15
set_option maxHeartbeats 4000000 in
set_option maxRecDepth 100000 in
theorem c_end (l : Launch) (dC : Nat → ClassId) (dI : Nat → Nat → Nat) (h0 : Nat) (tp : Nat) (cr : Nat) (rr : Nat) (ra : Nat) (nw : Nat) (im : Nat) (ps : Nat) (po : Nat) (dy : Nat) (cn : Nat) (tr : Nat) (tb : Nat) (a0 : Int32) (sz : Nat) : Met l yX11_end (ws_u yX11_end cX11_end 2 (some .int)) ({ frames := 0, cells := 0, slots := 0, locals := 0 }) (va_Pc [.ref h0, .int a0] (cPre (dC, dI) [] [(h0, .inr (11, [.ref tp, .ref cr, .ref rr, .ref ra, .int 0, .ref nw, .ref im, .ref ps, .ref po, .ref dy, .ref cn, .ref tr])), (tp, .inr (9, [.ref tb, .int 0, .int 0, .int 0]))] sz)) (va_Qi (fun (r : Int32) (_ : Unit) => r = f_end a0) (fun _ _ => True) (va_A [(h0, .inr (11, [.ref tp, .ref cr, .ref rr, .ref ra, .int 0, .ref nw, .ref im, .ref ps, .ref po, .ref dy, .ref cn, .ref tr])), (tp, .inr (9, [.ref tb, .int 0, .int 0, .int 0]))] sz)) 0 0 (va_A [(h0, .inr (11, [.ref tp, .ref cr, .ref rr, .ref ra, .int 0, .ref nw, .ref im, .ref ps, .ref po, .ref dy, .ref cn, .ref tr])), (tp, .inr (9, [.ref tb, .int 0, .int 0, .int 0]))] sz) := by
  refine Met.ofW (cc := cX11_end) (maxL := 2) (ret := (some .int)) (by decide) rfl ?_
  intro p e s m args below meth c s₁ B hml hv
  obtain ⟨rfl, hsz, hP, hK, hD0, hE⟩ := hv
  have hx := B.exec
  have hb := B.bytes
  have hr := B.returns
  have hts0 := atoms_spec (ws := ws_u yX11_end cX11_end 2 (some .int)) B.pre
  have hts : ∀ w ∈ gT, w.before _ s = true := fun w h => hts0 w (List.mem_cons_of_mem _ h)
  have hown : s.vm.findClass RX11 = some m.cls := findClass_of_methodNamed B.named
  have hlocks := B.notSynchronized
  subst hsz
  have hD := hD0.self (sz := s.heap.size)
  generalize hAe : va_A [(h0, .inr (11, [.ref tp, .ref cr, .ref rr, .ref ra, .int 0, .ref nw, .ref im, .ref ps, .ref po, .ref dy, .ref cn, .ref tr])), (tp, .inr (9, [.ref tb, .int 0, .int 0, .int 0]))] s.heap.size = A at hD ⊢
  have hA : ∀ q : Nat, s.heap.size ≤ q → A q := fun q h => by rw [← hAe]; exact Or.inr h
  have hS : va_S A s.heap s.heap [] := va_S.rf
  have hl := lv_entry ([.ref h0, .int a0]) (n := 2) (Nat.le_of_ble_eq_true rfl)
  rw [lg_entry_eq]
  generalize (lg_sl ([.ref h0, .int a0]) ++ List.replicate (2 - (lg_sl ([.ref h0, .int a0])).length) Slot.unset).toArray = ls at hl ⊢
  have hl : lv_has ls 2 [(0, .ref h0), (1, .int a0)] := hl
  have hP : va_P (dC, dI) vwCl [(h0, .inr (11, [.ref tp, .ref cr, .ref rr, .ref ra, .int 0, .ref nw, .ref im, .ref ps, .ref po, .ref dy, .ref cn, .ref tr])), (tp, .inr (9, [.ref tb, .int 0, .int 0, .int 0]))] s.heap := hP
  try clear hAe
  refine lv_iload_n hx hb dX11_end_0 rfl (lv_at hl 1 rfl) ?_
  refine lv_if_lt (tgt := 15) hx hb dX11_end_1 (by decide) (fun c_1 => ?_) (fun c_1 => ?_)
  · refine lv_iconst (v := (-1)) hx hb dX11_end_15 (by decide) ?_
    refine W.widen (k := 0) (n := 0) (Nat.le_of_ble_eq_true rfl) (Nat.le_of_ble_eq_true rfl) ?_
    exact W.iret (v := (-1)) hx hb hr (fun t ht hW => ⟨⟨(-1), (), rfl, (by unfold f_end; split <;> rename_i hh <;> first | rfl | (simp only [fa_lt, fa_le, fa_eq, li_m2, li_m1, li_0, li_3] at c_1 hh ⊢; first | done | omega)), trivial⟩, hS.F ht⟩) hS.2.2 dX11_end_16
  · refine lv_iload_n hx hb dX11_end_4 rfl (lv_at hl 1 rfl) ?_
    refine lv_aload_n hx hb dX11_end_5 rfl (lv_at hl 0 rfl) ?_
    refine va_get (D := (dC, dI)) (ci := 11) (v := .ref tp) (C := RX11) (T := TX11) (N := 12) hx hb hts iX11 hown hK hP 0 rfl rfl 0 (by decide) (hts _ tw_423) (fun _ h9 => h9) rfl dX11_end_6 ?_
    refine va_get (D := (dC, dI)) (ci := 9) (v := .int 0) (C := RX9) (T := TX9) (N := 4) hx hb hts iX9 hown hK hP 1 rfl rfl 1 (by decide) (hts _ tw_38) (fun _ h9 => h9) rfl dX11_end_9 ?_
    refine lv_icmp_le (tgt := 17) hx hb dX11_end_12 (by decide) (fun c_2 => ?_) (fun c_2 => ?_)
    · refine lv_aload_n hx hb dX11_end_17 rfl (lv_at hl 0 rfl) ?_
      refine va_get (D := (dC, dI)) (ci := 11) (v := .ref tp) (C := RX11) (T := TX11) (N := 12) hx hb hts iX11 hown hK hP 0 rfl rfl 0 (by decide) (hts _ tw_423) (fun _ h9 => h9) rfl dX11_end_18 ?_
      refine lv_iload_n hx hb dX11_end_21 rfl (lv_at hl 1 rfl) ?_
      refine va_put (D := (dC, dI)) (ci := 9) (v := .int a0) (C := RX9) (T := TX9) (N := 4) hx hb hts iX9 tyX9 tyX9_ok nmX9 hown hK hP hD hS 1 rfl rfl 1 (by decide) (hts _ tw_38) (fun _ h9 => h9) rfl (tyX9_ok 1 (by decide)) rfl rfl (Nat.le_of_ble_eq_true rfl) dX11_end_22 (fun H locs hP hD hS => ?_)
      have hP : va_P (dC, dI) vwCl [(h0, .inr (11, [.ref tp, .ref cr, .ref rr, .ref ra, .int 0, .ref nw, .ref im, .ref ps, .ref po, .ref dy, .ref cn, .ref tr])), (tp, .inr (9, [.ref tb, .int a0, .int 0, .int 0]))] H := hP
      have hD : va_D A [(h0, .inr (11, [.ref tp, .ref cr, .ref rr, .ref ra, .int 0, .ref nw, .ref im, .ref ps, .ref po, .ref dy, .ref cn, .ref tr])), (tp, .inr (9, [.ref tb, .int a0, .int 0, .int 0]))] := hD
      refine lv_iload_n hx hb dX11_end_25 rfl (lv_at hl 1 rfl) ?_
      refine W.widen (k := 0) (n := 0) (Nat.le_of_ble_eq_true rfl) (Nat.le_of_ble_eq_true rfl) ?_
      exact W.iret (v := a0) hx hb hr (fun t ht hW => ⟨⟨a0, (), rfl, (by unfold f_end; split <;> rename_i hh <;> first | rfl | (simp only [fa_lt, fa_le, fa_eq, li_m2, li_m1, li_0, li_3] at c_1 c_2 hh ⊢; first | done | omega)), trivial⟩, hS.F ht⟩) hS.2.2 dX11_end_26
    · refine lv_iconst (v := (-1)) hx hb dX11_end_15 (by decide) ?_
      refine W.widen (k := 0) (n := 0) (Nat.le_of_ble_eq_true rfl) (Nat.le_of_ble_eq_true rfl) ?_
      exact W.iret (v := (-1)) hx hb hr (fun t ht hW => ⟨⟨(-1), (), rfl, (by unfold f_end; split <;> rename_i hh <;> first | rfl | (simp only [fa_lt, fa_le, fa_eq, li_m2, li_m1, li_0, li_3] at c_1 c_2 hh ⊢; first | done | omega)), trivial⟩, hS.F ht⟩) hS.2.2 dX11_end_16
set_option maxHeartbeats 4000000 in
set_option maxRecDepth 100000 in
theorem c_takeBack (l : Launch) (dC : Nat → ClassId) (dI : Nat → Nat → Nat) (ps : Nat) (pr : Nat) (ns : Nat) (sz : Nat) : Met l yX4_takeBack (ws_u yX4_takeBack cX4_takeBack 2 (some .boolean)) ({ frames := 0, cells := 0, slots := 0, locals := 0 }) (va_Pc [.ref ps, .ref ns] (cPre (dC, dI) [] [(ps, .inr (4, [.ref pr, .int 0, .int 0]))] sz)) (va_Qi (fun (r : Int32) (_ : Unit) => r = 0) (fun _ t => cPost (dC, dI) [] [(ps, .inr (4, [.ref pr, .int 0, .int 0]))] (va_A [(ps, .inr (4, [.ref pr, .int 0, .int 0]))] sz) t) (va_A [(ps, .inr (4, [.ref pr, .int 0, .int 0]))] sz)) 0 0 (va_A [(ps, .inr (4, [.ref pr, .int 0, .int 0]))] sz) := by
  refine Met.ofW (cc := cX4_takeBack) (maxL := 2) (ret := (some .boolean)) (by decide) rfl ?_
  intro p e s m args below meth c s₁ B hml hv
  obtain ⟨rfl, hsz, hP, hK, hD0, hE⟩ := hv
  have hx := B.exec
  have hb := B.bytes
  have hr := B.returns
  have hts0 := atoms_spec (ws := ws_u yX4_takeBack cX4_takeBack 2 (some .boolean)) B.pre
  have hts : ∀ w ∈ gT, w.before _ s = true := fun w h => hts0 w (List.mem_cons_of_mem _ h)
  have hown : s.vm.findClass RX4 = some m.cls := findClass_of_methodNamed B.named
  have hlocks := B.notSynchronized
  subst hsz
  have hD := hD0.self (sz := s.heap.size)
  generalize hAe : va_A [(ps, .inr (4, [.ref pr, .int 0, .int 0]))] s.heap.size = A at hD ⊢
  have hA : ∀ q : Nat, s.heap.size ≤ q → A q := fun q h => by rw [← hAe]; exact Or.inr h
  have hS : va_S A s.heap s.heap [] := va_S.rf
  have hl := lv_entry ([.ref ps, .ref ns]) (n := 2) (Nat.le_of_ble_eq_true rfl)
  rw [lg_entry_eq]
  generalize (lg_sl ([.ref ps, .ref ns]) ++ List.replicate (2 - (lg_sl ([.ref ps, .ref ns])).length) Slot.unset).toArray = ls at hl ⊢
  have hl : lv_has ls 2 [(0, .ref ps), (1, .ref ns)] := hl
  have hP : va_P (dC, dI) vwCl [(ps, .inr (4, [.ref pr, .int 0, .int 0]))] s.heap := hP
  try clear hAe
  refine lv_aload_n hx hb dX4_takeBack_0 rfl (lv_at hl 0 rfl) ?_
  refine va_get (D := (dC, dI)) (ci := 4) (v := .int 0) (C := RX4) (T := TX4) (N := 3) hx hb hts iX4 hown hK hP 0 rfl rfl 2 (by decide) (hts _ tw_329) (fun _ h9 => h9) rfl dX4_takeBack_1 ?_
  refine lv_iconst (v := 1) hx hb dX4_takeBack_4 (by decide) ?_
  refine lv_icmp_ge (tgt := 10) hx hb dX4_takeBack_5 (by decide) (fun c_1 => absurd c_1 (by decide)) (fun c_1 => ?_)
  refine lv_iconst (v := 0) hx hb dX4_takeBack_8 (by decide) ?_
  have hP9 := hP.sub (ws' := [(ps, .inr (4, [.ref pr, .int 0, .int 0]))]) [0] rfl
  have hD9 := hD.sub (ws' := [(ps, .inr (4, [.ref pr, .int 0, .int 0]))]) [0] (by decide) rfl
  have hK9 := hK.sub (tys' := []) [] rfl
  refine W.widen (k := 0) (n := 0) (Nat.le_of_ble_eq_true rfl) (Nat.le_of_ble_eq_true rfl) ?_
  exact W.zret (v := 0) hx hb hr rfl (fun t ht hW => ⟨⟨0, (), rfl, rfl, ⟨by rw [ht]; exact hP9, va_K.moved hW.alike hK9, hD9⟩⟩, hS.F ht⟩) hS.2.2 dX4_takeBack_9
set_option maxHeartbeats 4000000 in
set_option maxRecDepth 100000 in
theorem c_undo (l : Launch) (dC : Nat → ClassId) (dI : Nat → Nat → Nat) (h0 : Nat) (tp : Nat) (cr : Nat) (rr : Nat) (ra : Nat) (nw : Nat) (im : Nat) (ps : Nat) (po : Nat) (dy : Nat) (cn : Nat) (tr : Nat) (ns : Nat) (nd : Nat) (nb : Nat) (nc : Nat) (pr : Nat) (sz : Nat) : Met l yX11_undo (ws_u yX11_undo cX11_undo 1 (some .int)) ({ frames := 1, cells := 0, slots := 0, locals := 21 }) (va_Pc [.ref h0] (cPre (dC, dI) [] [(h0, .inr (11, [.ref tp, .ref cr, .ref rr, .ref ra, .int 0, .ref nw, .ref im, .ref ps, .ref po, .ref dy, .ref cn, .ref tr])), (nw, .inr (10, [.ref nc, .ref ns, .int (-1), .int 0, .int 0, .ref nd, .ref nb, .int 0])), (ps, .inr (4, [.ref pr, .int 0, .int 0]))] sz)) (va_Qi (fun (r : Int32) (_ : Unit) => r = (-1)) (fun _ _ => True) (va_A [(h0, .inr (11, [.ref tp, .ref cr, .ref rr, .ref ra, .int 0, .ref nw, .ref im, .ref ps, .ref po, .ref dy, .ref cn, .ref tr])), (nw, .inr (10, [.ref nc, .ref ns, .int (-1), .int 0, .int 0, .ref nd, .ref nb, .int 0])), (ps, .inr (4, [.ref pr, .int 0, .int 0]))] sz)) 0 0 (va_A [(h0, .inr (11, [.ref tp, .ref cr, .ref rr, .ref ra, .int 0, .ref nw, .ref im, .ref ps, .ref po, .ref dy, .ref cn, .ref tr])), (nw, .inr (10, [.ref nc, .ref ns, .int (-1), .int 0, .int 0, .ref nd, .ref nb, .int 0])), (ps, .inr (4, [.ref pr, .int 0, .int 0]))] sz) := by
  refine Met.ofW (cc := cX11_undo) (maxL := 1) (ret := (some .int)) (by decide) rfl ?_
  intro p e s m args below meth c s₁ B hml hv
  obtain ⟨rfl, hsz, hP, hK, hD0, hE⟩ := hv
  have hx := B.exec
  have hb := B.bytes
  have hr := B.returns
  have hts0 := atoms_spec (ws := ws_u yX11_undo cX11_undo 1 (some .int)) B.pre
  have hts : ∀ w ∈ gT, w.before _ s = true := fun w h => hts0 w (List.mem_cons_of_mem _ h)
  have hown : s.vm.findClass RX11 = some m.cls := findClass_of_methodNamed B.named
  have hlocks := B.notSynchronized
  subst hsz
  have hD := hD0.self (sz := s.heap.size)
  generalize hAe : va_A [(h0, .inr (11, [.ref tp, .ref cr, .ref rr, .ref ra, .int 0, .ref nw, .ref im, .ref ps, .ref po, .ref dy, .ref cn, .ref tr])), (nw, .inr (10, [.ref nc, .ref ns, .int (-1), .int 0, .int 0, .ref nd, .ref nb, .int 0])), (ps, .inr (4, [.ref pr, .int 0, .int 0]))] s.heap.size = A at hD ⊢
  have hA : ∀ q : Nat, s.heap.size ≤ q → A q := fun q h => by rw [← hAe]; exact Or.inr h
  have hS : va_S A s.heap s.heap [] := va_S.rf
  have hl := lv_entry ([.ref h0]) (n := 1) (Nat.le_of_ble_eq_true rfl)
  rw [lg_entry_eq]
  generalize (lg_sl ([.ref h0]) ++ List.replicate (1 - (lg_sl ([.ref h0])).length) Slot.unset).toArray = ls at hl ⊢
  have hl : lv_has ls 1 [(0, .ref h0)] := hl
  have hP : va_P (dC, dI) vwCl [(h0, .inr (11, [.ref tp, .ref cr, .ref rr, .ref ra, .int 0, .ref nw, .ref im, .ref ps, .ref po, .ref dy, .ref cn, .ref tr])), (nw, .inr (10, [.ref nc, .ref ns, .int (-1), .int 0, .int 0, .ref nd, .ref nb, .int 0])), (ps, .inr (4, [.ref pr, .int 0, .int 0]))] s.heap := hP
  try clear hAe
  refine lv_aload_n hx hb dX11_undo_0 rfl (lv_at hl 0 rfl) ?_
  refine va_get (D := (dC, dI)) (ci := 11) (v := .ref ps) (C := RX11) (T := TX11) (N := 12) hx hb hts iX11 hown hK hP 0 rfl rfl 7 (by decide) (hts _ tw_430) (fun _ h9 => h9) rfl dX11_undo_1 ?_
  refine lv_aload_n hx hb dX11_undo_4 rfl (lv_at hl 0 rfl) ?_
  refine va_get (D := (dC, dI)) (ci := 11) (v := .ref nw) (C := RX11) (T := TX11) (N := 12) hx hb hts iX11 hown hK hP 0 rfl rfl 5 (by decide) (hts _ tw_428) (fun _ h9 => h9) rfl dX11_undo_5 ?_
  refine va_get (D := (dC, dI)) (ci := 10) (v := .ref ns) (C := RX10) (T := TX10) (N := 8) hx hb hts iX10 hown hK hP 1 rfl rfl 1 (by decide) (hts _ tw_285) (fun _ h9 => h9) rfl dX11_undo_8 ?_
  have hPc := hP.sub (ws' := [(ps, .inr (4, [.ref pr, .int 0, .int 0]))]) [2] rfl
  have hDc := hD.sub (ws' := [(ps, .inr (4, [.ref pr, .int 0, .int 0]))]) [2] (by decide) rfl
  have hKc := hK.sub (tys' := []) [] rfl
  have hFc := va_free (wc := [(ps, .inr (4, [.ref pr, .int 0, .int 0]))]) hD hS hA [2] rfl
  refine va_calli (va_runV (As := [.ref ns]) (rest := []) ⟨hx, hb, hml, hown, hts⟩ (c_takeBack l dC dI ps pr ns  s.heap.size) (cwV 1 hts (gUV tw_886 tw_887 tw_888 tw_9 tw_889) rfl rfl rfl (by decide +kernel) ⟨(Nat.le_of_ble_eq_true rfl), (Nat.le_of_ble_eq_true rfl)⟩) ⟨cPre.blind, va_recv hKc hPc (ci := 4) (q0 := 0) rfl rfl, cPre.use hPc hKc hDc hE⟩ rfl rfl hl.1 rfl (lv_room (Nat.le_of_ble_eq_true rfl)) dX11_undo_11 ⟨(Nat.le_of_ble_eq_true rfl), (Nat.le_of_ble_eq_true rfl)⟩) hS (fun q _ h => hFc q h) hFc (fun r_1 u t H1 locs ht hvm hw hB hz1 hk1 hS => ?_)
  obtain ⟨hP1, hK1, hD1⟩ := hB
  rw [ht] at hP1
  obtain ⟨hP, hD⟩ := va_join (wr := [(h0, .inr (11, [.ref tp, .ref cr, .ref rr, .ref ra, .int 0, .ref nw, .ref im, .ref ps, .ref po, .ref dy, .ref cn, .ref tr])), (nw, .inr (10, [.ref nc, .ref ns, .int (-1), .int 0, .int 0, .ref nd, .ref nb, .int 0]))]) (w1 := [(ps, .inr (4, [.ref pr, .int 0, .int 0]))]) hP hD [2] [0, 1] rfl rfl (by decide) (by decide) hk1 hFc hP1 hD1
  generalize H1 = H at hP hS ⊢
  have hP : va_P (dC, dI) vwCl [(h0, .inr (11, [.ref tp, .ref cr, .ref rr, .ref ra, .int 0, .ref nw, .ref im, .ref ps, .ref po, .ref dy, .ref cn, .ref tr])), (nw, .inr (10, [.ref nc, .ref ns, .int (-1), .int 0, .int 0, .ref nd, .ref nb, .int 0])), (ps, .inr (4, [.ref pr, .int 0, .int 0]))] H := hP
  have hD : va_D A [(h0, .inr (11, [.ref tp, .ref cr, .ref rr, .ref ra, .int 0, .ref nw, .ref im, .ref ps, .ref po, .ref dy, .ref cn, .ref tr])), (nw, .inr (10, [.ref nc, .ref ns, .int (-1), .int 0, .int 0, .ref nd, .ref nb, .int 0])), (ps, .inr (4, [.ref pr, .int 0, .int 0]))] := hD
  obtain rfl : r_1 = 0 := hw
  refine lv_if_eq (tgt := 27) hx hb dX11_undo_14 (by decide) (fun c_2 => ?_) (fun c_2 => absurd (by decide) c_2)
  refine lv_iconst (v := (-1)) hx hb dX11_undo_27 (by decide) ?_
  refine W.widen (k := 0) (n := 0) (Nat.le_of_ble_eq_true rfl) (Nat.le_of_ble_eq_true rfl) ?_
  exact W.iret (v := (-1)) hx hb hr (fun t ht hW => ⟨⟨(-1), (), rfl, rfl, trivial⟩, hS.F ht⟩) hS.2.2 dX11_undo_28
