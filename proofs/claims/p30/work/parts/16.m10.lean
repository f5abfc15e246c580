theorem ts_1_14 : Cond.selects "BoyBishop" ⟨"BoyBishop", "isAlive", "(I)Z"⟩ ⟨"BoyBishop", "isAlive", "(I)Z"⟩ ∈ gT := gT_in (List.mem_append_left _ (List.mem_map.mpr ⟨(⟨"BoyBishop", "isAlive", "(I)Z"⟩, 12), (List.mem_append_right _ (List.mem_append_left _ (List.mem_of_getElem? (i := 14) rfl))), rfl⟩)) rfl
theorem ts_1_2 : Cond.selects "BoyBishop" ⟨"BoyBishop", "hoursFromChurch", "(I)I"⟩ ⟨"BoyBishop", "hoursFromChurch", "(I)I"⟩ ∈ gT := gT_in (List.mem_append_left _ (List.mem_map.mpr ⟨(⟨"BoyBishop", "hoursFromChurch", "(I)I"⟩, 12), (List.mem_append_right _ (List.mem_append_left _ (List.mem_of_getElem? (i := 2) rfl))), rfl⟩)) rfl
theorem ts_2_15 : Cond.selects "BoyBishop" ⟨"BoyBishop", "countOfStanding", "(I)I"⟩ ⟨"BoyBishop", "countOfStanding", "(I)I"⟩ ∈ gT := gT_in (List.mem_append_left _ (List.mem_map.mpr ⟨(⟨"BoyBishop", "countOfStanding", "(I)I"⟩, 12), (List.mem_append_right _ (List.mem_append_right _ (List.mem_append_left _ (List.mem_of_getElem? (i := 15) rfl)))), rfl⟩)) rfl
theorem tw_1099 : (Jvm.Cond.methodLink "BoyBishop" (355 : Nat) ({ cls := "BoyBishop", name := "countOfStanding", desc := "(I)I" } : Jvm.MethodName)) ∈ gT := gT_in (List.mem_append_right _ (List.mem_append_right _ (List.mem_append_right _ (List.mem_append_right _ (List.mem_append_right _ (List.mem_append_left _ (List.mem_of_getElem? (i := 139) rfl))))))) rfl
theorem tw_1101 : (Jvm.Cond.instanceMethod ({ cls := "BoyBishop", name := "countOfStanding", desc := "(I)I" } : Jvm.MethodName)) ∈ gT := gT_in (List.mem_append_right _ (List.mem_append_right _ (List.mem_append_right _ (List.mem_append_right _ (List.mem_append_right _ (List.mem_append_left _ (List.mem_of_getElem? (i := 141) rfl))))))) rfl
theorem tw_1102 : (Jvm.Cond.code ({ cls := "BoyBishop", name := "countOfStanding", desc := "(I)I" } : Jvm.MethodName) prog_1_method_38_code (3 : Nat) (Option.some Jvm.ClassFile.FieldType.int)) ∈ gT := gT_in (List.mem_append_right _ (List.mem_append_right _ (List.mem_append_right _ (List.mem_append_right _ (List.mem_append_right _ (List.mem_append_left _ (List.mem_of_getElem? (i := 142) rfl))))))) rfl
theorem tw_114 : (Jvm.Cond.fieldLink "BoyBishop" (176 : Nat) "BoyBishop$Choir" "gift" "[I") ∈ gT := gT_in (List.mem_append_right _ (List.mem_append_left _ (List.mem_of_getElem? (i := 114) rfl))) rfl
theorem tw_118 : (Jvm.Cond.fieldLink "BoyBishop" (179 : Nat) "BoyBishop$Choir" "more" "[I") ∈ gT := gT_in (List.mem_append_right _ (List.mem_append_left _ (List.mem_of_getElem? (i := 118) rfl))) rfl
theorem tw_289 : (Jvm.Cond.fieldLink "BoyBishop" (336 : Nat) "BoyBishop$Whole" "x" "I") ∈ gT := gT_in (List.mem_append_right _ (List.mem_append_right _ (List.mem_append_left _ (List.mem_of_getElem? (i := 49) rfl)))) rfl
theorem tw_292 : (Jvm.Cond.fieldLink "BoyBishop" (121 : Nat) "BoyBishop$Whole" "notes" "I") ∈ gT := gT_in (List.mem_append_right _ (List.mem_append_right _ (List.mem_append_left _ (List.mem_of_getElem? (i := 52) rfl)))) rfl
theorem tw_330 : (Jvm.Cond.fieldLink "BoyBishop" (238 : Nat) "BoyBishop$Past" "kept" "I") ∈ gT := gT_in (List.mem_append_right _ (List.mem_append_right _ (List.mem_append_left _ (List.mem_of_getElem? (i := 90) rfl)))) rfl
theorem tw_38 : (Jvm.Cond.fieldLink "BoyBishop" (104 : Nat) "BoyBishop$Tape" "length" "I") ∈ gT := gT_in (List.mem_append_right _ (List.mem_append_left _ (List.mem_of_getElem? (i := 38) rfl))) rfl
theorem tw_423 : (Jvm.Cond.fieldLink "BoyBishop" (10 : Nat) "BoyBishop" "tape" "LBoyBishop$Tape;") ∈ gT := gT_in (List.mem_append_right _ (List.mem_append_right _ (List.mem_append_left _ (List.mem_of_getElem? (i := 183) rfl)))) rfl
theorem tw_464 : (Jvm.Cond.methodLink "BoyBishop" (96 : Nat) ({ cls := "BoyBishop$Tape", name := "hasRoom", desc := "(I)Z" } : Jvm.MethodName)) ∈ gT := gT_in (List.mem_append_right _ (List.mem_append_right _ (List.mem_append_left _ (List.mem_of_getElem? (i := 224) rfl)))) rfl
theorem tw_465 : (Jvm.Cond.instanceMethod ({ cls := "BoyBishop$Tape", name := "hasRoom", desc := "(I)Z" } : Jvm.MethodName)) ∈ gT := gT_in (List.mem_append_right _ (List.mem_append_right _ (List.mem_append_left _ (List.mem_of_getElem? (i := 225) rfl)))) rfl
theorem tw_466 : (Jvm.Cond.selects "BoyBishop$Tape" ({ cls := "BoyBishop$Tape", name := "hasRoom", desc := "(I)Z" } : Jvm.MethodName) ({ cls := "BoyBishop$Tape", name := "hasRoom", desc := "(I)Z" } : Jvm.MethodName)) ∈ gT := gT_in (List.mem_append_right _ (List.mem_append_right _ (List.mem_append_left _ (List.mem_of_getElem? (i := 226) rfl)))) rfl
theorem tw_467 : (Jvm.Cond.code ({ cls := "BoyBishop$Tape", name := "hasRoom", desc := "(I)Z" } : Jvm.MethodName) prog_11_method_2_code (2 : Nat) (Option.some Jvm.ClassFile.FieldType.boolean)) ∈ gT := gT_in (List.mem_append_right _ (List.mem_append_right _ (List.mem_append_left _ (List.mem_of_getElem? (i := 227) rfl)))) rfl
theorem tw_468 : (Jvm.Cond.methodLink "BoyBishop" (100 : Nat) ({ cls := "BoyBishop$Tape", name := "add", desc := "(I)V" } : Jvm.MethodName)) ∈ gT := gT_in (List.mem_append_right _ (List.mem_append_right _ (List.mem_append_left _ (List.mem_of_getElem? (i := 228) rfl)))) rfl
theorem tw_469 : (Jvm.Cond.instanceMethod ({ cls := "BoyBishop$Tape", name := "add", desc := "(I)V" } : Jvm.MethodName)) ∈ gT := gT_in (List.mem_append_right _ (List.mem_append_right _ (List.mem_append_left _ (List.mem_of_getElem? (i := 229) rfl)))) rfl
theorem tw_470 : (Jvm.Cond.selects "BoyBishop$Tape" ({ cls := "BoyBishop$Tape", name := "add", desc := "(I)V" } : Jvm.MethodName) ({ cls := "BoyBishop$Tape", name := "add", desc := "(I)V" } : Jvm.MethodName)) ∈ gT := gT_in (List.mem_append_right _ (List.mem_append_right _ (List.mem_append_left _ (List.mem_of_getElem? (i := 230) rfl)))) rfl
theorem tw_471 : (Jvm.Cond.code ({ cls := "BoyBishop$Tape", name := "add", desc := "(I)V" } : Jvm.MethodName) prog_11_method_3_code (3 : Nat) (Option.none : Option Jvm.ClassFile.FieldType)) ∈ gT := gT_in (List.mem_append_right _ (List.mem_append_right _ (List.mem_append_left _ (List.mem_of_getElem? (i := 231) rfl)))) rfl
theorem tw_72 : (Jvm.Cond.fieldLink "BoyBishop" (349 : Nat) "BoyBishop$Choir" "reign" "I") ∈ gT := gT_in (List.mem_append_right _ (List.mem_append_left _ (List.mem_of_getElem? (i := 72) rfl))) rfl
theorem tw_734 : (Jvm.Cond.methodLink "BoyBishop" (185 : Nat) ({ cls := "BoyBishop", name := "hoursFromChurch", desc := "(I)I" } : Jvm.MethodName)) ∈ gT := gT_in (List.mem_append_right _ (List.mem_append_right _ (List.mem_append_right _ (List.mem_append_right _ (List.mem_append_left _ (List.mem_of_getElem? (i := 14) rfl)))))) rfl
theorem tw_736 : (Jvm.Cond.instanceMethod ({ cls := "BoyBishop", name := "hoursFromChurch", desc := "(I)I" } : Jvm.MethodName)) ∈ gT := gT_in (List.mem_append_right _ (List.mem_append_right _ (List.mem_append_right _ (List.mem_append_right _ (List.mem_append_left _ (List.mem_of_getElem? (i := 16) rfl)))))) rfl
theorem tw_737 : (Jvm.Cond.code ({ cls := "BoyBishop", name := "hoursFromChurch", desc := "(I)I" } : Jvm.MethodName) prog_1_method_11_code (3 : Nat) (Option.some Jvm.ClassFile.FieldType.int)) ∈ gT := gT_in (List.mem_append_right _ (List.mem_append_right _ (List.mem_append_right _ (List.mem_append_right _ (List.mem_append_left _ (List.mem_of_getElem? (i := 17) rfl)))))) rfl
theorem tw_742 : (Jvm.Cond.constant "BoyBishop" (193 : Nat) (1000000 : Int32)) ∈ gT := gT_in (List.mem_append_right _ (List.mem_append_right _ (List.mem_append_right _ (List.mem_append_right _ (List.mem_append_left _ (List.mem_of_getElem? (i := 22) rfl)))))) rfl
theorem tw_75 : (Jvm.Cond.fieldLink "BoyBishop" (352 : Nat) "BoyBishop$Choir" "hours" "I") ∈ gT := gT_in (List.mem_append_right _ (List.mem_append_left _ (List.mem_of_getElem? (i := 75) rfl))) rfl
theorem tw_870 : (Jvm.Cond.methodLink "BoyBishop" (228 : Nat) ({ cls := "BoyBishop", name := "isAlive", desc := "(I)Z" } : Jvm.MethodName)) ∈ gT := gT_in (List.mem_append_right _ (List.mem_append_right _ (List.mem_append_right _ (List.mem_append_right _ (List.mem_append_left _ (List.mem_of_getElem? (i := 150) rfl)))))) rfl
theorem tw_872 : (Jvm.Cond.instanceMethod ({ cls := "BoyBishop", name := "isAlive", desc := "(I)Z" } : Jvm.MethodName)) ∈ gT := gT_in (List.mem_append_right _ (List.mem_append_right _ (List.mem_append_right _ (List.mem_append_right _ (List.mem_append_left _ (List.mem_of_getElem? (i := 152) rfl)))))) rfl
theorem tw_873 : (Jvm.Cond.code ({ cls := "BoyBishop", name := "isAlive", desc := "(I)Z" } : Jvm.MethodName) prog_1_method_44_code (2 : Nat) (Option.some Jvm.ClassFile.FieldType.boolean)) ∈ gT := gT_in (List.mem_append_right _ (List.mem_append_right _ (List.mem_append_right _ (List.mem_append_right _ (List.mem_append_left _ (List.mem_of_getElem? (i := 153) rfl)))))) rfl
theorem dX11_count_0 : decode cX11_count 0 = .ok (.iload_n 1, 1) := by decide +kernel
theorem dX11_count_1 : decode cX11_count 1 = .ok (.tableswitch 195 0 19 #[95, 106, 117, 128, 139, 150, 155, 195, 195, 195, 195, 195, 195, 195, 195, 195, 163, 171, 179, 187], 95) := by decide +kernel
theorem dX11_count_96 : decode cX11_count 96 = .ok (.aload_n 0, 1) := by decide +kernel
theorem dX11_count_97 : decode cX11_count 97 = .ok (.getfield 45, 3) := by decide +kernel
theorem dX11_count_100 : decode cX11_count 100 = .ok (.getfield 53, 3) := by decide +kernel
theorem dX11_count_103 : decode cX11_count 103 = .ok (.getfield 349, 3) := by decide +kernel
theorem dX11_count_106 : decode cX11_count 106 = .ok (.ireturn, 1) := by decide +kernel
theorem dX11_count_107 : decode cX11_count 107 = .ok (.aload_n 0, 1) := by decide +kernel
theorem dX11_count_108 : decode cX11_count 108 = .ok (.getfield 45, 3) := by decide +kernel
theorem dX11_count_111 : decode cX11_count 111 = .ok (.getfield 53, 3) := by decide +kernel
theorem dX11_count_114 : decode cX11_count 114 = .ok (.getfield 352, 3) := by decide +kernel
theorem dX11_count_117 : decode cX11_count 117 = .ok (.ireturn, 1) := by decide +kernel
theorem dX11_count_118 : decode cX11_count 118 = .ok (.aload_n 0, 1) := by decide +kernel
theorem dX11_count_119 : decode cX11_count 119 = .ok (.getfield 45, 3) := by decide +kernel
theorem dX11_count_122 : decode cX11_count 122 = .ok (.getfield 53, 3) := by decide +kernel
theorem dX11_count_125 : decode cX11_count 125 = .ok (.getfield 127, 3) := by decide +kernel
theorem dX11_count_128 : decode cX11_count 128 = .ok (.ireturn, 1) := by decide +kernel
theorem dX11_count_129 : decode cX11_count 129 = .ok (.aload_n 0, 1) := by decide +kernel
theorem dX11_count_130 : decode cX11_count 130 = .ok (.getfield 45, 3) := by decide +kernel
theorem dX11_count_133 : decode cX11_count 133 = .ok (.getfield 53, 3) := by decide +kernel
theorem dX11_count_136 : decode cX11_count 136 = .ok (.getfield 311, 3) := by decide +kernel
theorem dX11_count_139 : decode cX11_count 139 = .ok (.ireturn, 1) := by decide +kernel
theorem dX11_count_140 : decode cX11_count 140 = .ok (.aload_n 0, 1) := by decide +kernel
theorem dX11_count_141 : decode cX11_count 141 = .ok (.getfield 45, 3) := by decide +kernel
theorem dX11_count_144 : decode cX11_count 144 = .ok (.getfield 53, 3) := by decide +kernel
theorem dX11_count_147 : decode cX11_count 147 = .ok (.getfield 298, 3) := by decide +kernel
theorem dX11_count_150 : decode cX11_count 150 = .ok (.ireturn, 1) := by decide +kernel
theorem dX11_count_151 : decode cX11_count 151 = .ok (.aload_n 0, 1) := by decide +kernel
theorem dX11_count_152 : decode cX11_count 152 = .ok (.getfield 130, 3) := by decide +kernel
theorem dX11_count_155 : decode cX11_count 155 = .ok (.ireturn, 1) := by decide +kernel
theorem dX11_count_156 : decode cX11_count 156 = .ok (.aload_n 0, 1) := by decide +kernel
theorem dX11_count_157 : decode cX11_count 157 = .ok (.getfield 45, 3) := by decide +kernel
theorem dX11_count_160 : decode cX11_count 160 = .ok (.getfield 136, 3) := by decide +kernel
theorem dX11_count_163 : decode cX11_count 163 = .ok (.ireturn, 1) := by decide +kernel
theorem dX11_count_164 : decode cX11_count 164 = .ok (.aload_n 0, 1) := by decide +kernel
theorem dX11_count_165 : decode cX11_count 165 = .ok (.getfield 45, 3) := by decide +kernel
theorem dX11_count_168 : decode cX11_count 168 = .ok (.getfield 121, 3) := by decide +kernel
theorem dX11_count_171 : decode cX11_count 171 = .ok (.ireturn, 1) := by decide +kernel
theorem dX11_count_172 : decode cX11_count 172 = .ok (.aload_n 0, 1) := by decide +kernel
theorem dX11_count_173 : decode cX11_count 173 = .ok (.getfield 60, 3) := by decide +kernel
theorem dX11_count_176 : decode cX11_count 176 = .ok (.getfield 238, 3) := by decide +kernel
theorem dX11_count_179 : decode cX11_count 179 = .ok (.ireturn, 1) := by decide +kernel
theorem dX11_count_180 : decode cX11_count 180 = .ok (.aload_n 0, 1) := by decide +kernel
theorem dX11_count_181 : decode cX11_count 181 = .ok (.getfield 45, 3) := by decide +kernel
theorem dX11_count_184 : decode cX11_count 184 = .ok (.getfield 336, 3) := by decide +kernel
theorem dX11_count_187 : decode cX11_count 187 = .ok (.ireturn, 1) := by decide +kernel
theorem dX11_count_188 : decode cX11_count 188 = .ok (.aload_n 0, 1) := by decide +kernel
theorem dX11_count_189 : decode cX11_count 189 = .ok (.getfield 10, 3) := by decide +kernel
theorem dX11_count_192 : decode cX11_count 192 = .ok (.getfield 104, 3) := by decide +kernel
theorem dX11_count_195 : decode cX11_count 195 = .ok (.ireturn, 1) := by decide +kernel
theorem dX11_count_196 : decode cX11_count 196 = .ok (.aload_n 0, 1) := by decide +kernel
theorem dX11_count_197 : decode cX11_count 197 = .ok (.iload_n 1, 1) := by decide +kernel
theorem dX11_count_198 : decode cX11_count 198 = .ok (.invokevirtual 355, 3) := by decide +kernel
theorem dX11_count_201 : decode cX11_count 201 = .ok (.ireturn, 1) := by decide +kernel
theorem dX11_day_0 : decode cX11_day 0 = .ok (.aload_n 0, 1) := by decide +kernel
theorem dX11_day_1 : decode cX11_day 1 = .ok (.getfield 45, 3) := by decide +kernel
theorem dX11_day_4 : decode cX11_day 4 = .ok (.getfield 53, 3) := by decide +kernel
theorem dX11_day_7 : decode cX11_day 7 = .ok (.getfield 194, 3) := by decide +kernel
theorem dX11_day_10 : decode cX11_day 10 = .ok (.ifCond .eq 19, 3) := by decide +kernel
theorem dX11_day_13 : decode cX11_day 13 = .ok (.aload_n 0, 1) := by decide +kernel
theorem dX11_day_14 : decode cX11_day 14 = .ok (.getfield 45, 3) := by decide +kernel
theorem dX11_day_17 : decode cX11_day 17 = .ok (.getfield 115, 3) := by decide +kernel
theorem dX11_day_20 : decode cX11_day 20 = .ok (.getfield 198, 3) := by decide +kernel
theorem dX11_day_23 : decode cX11_day 23 = .ok (.sipush 999, 3) := by decide +kernel
theorem dX11_day_26 : decode cX11_day 26 = .ok (.if_icmp .lt 6, 3) := by decide +kernel
theorem dX11_day_29 : decode cX11_day 29 = .ok (.bipush (-2), 2) := by decide +kernel
theorem dX11_day_31 : decode cX11_day 31 = .ok (.ireturn, 1) := by decide +kernel
theorem dX11_day_32 : decode cX11_day 32 = .ok (.aload_n 0, 1) := by decide +kernel
theorem dX11_day_33 : decode cX11_day 33 = .ok (.getfield 60, 3) := by decide +kernel
theorem dX11_day_36 : decode cX11_day 36 = .ok (.aload_n 0, 1) := by decide +kernel
theorem dX11_day_37 : decode cX11_day 37 = .ok (.getfield 45, 3) := by decide +kernel
theorem dX11_day_40 : decode cX11_day 40 = .ok (.getfield 115, 3) := by decide +kernel
theorem dX11_day_43 : decode cX11_day 43 = .ok (.invokevirtual 201, 3) := by decide +kernel
theorem dX11_day_46 : decode cX11_day 46 = .ok (.aload_n 0, 1) := by decide +kernel
theorem dX11_day_47 : decode cX11_day 47 = .ok (.getfield 76, 3) := by decide +kernel
theorem dX11_day_50 : decode cX11_day 50 = .ok (.aload_n 0, 1) := by decide +kernel
theorem dX11_day_51 : decode cX11_day 51 = .ok (.getfield 45, 3) := by decide +kernel
theorem dX11_day_54 : decode cX11_day 54 = .ok (.getfield 53, 3) := by decide +kernel
theorem dX11_day_57 : decode cX11_day 57 = .ok (.aload_n 0, 1) := by decide +kernel
theorem dX11_day_58 : decode cX11_day 58 = .ok (.getfield 45, 3) := by decide +kernel
theorem dX11_day_61 : decode cX11_day 61 = .ok (.getfield 115, 3) := by decide +kernel
theorem dX11_day_64 : decode cX11_day 64 = .ok (.aload_n 0, 1) := by decide +kernel
theorem dX11_day_65 : decode cX11_day 65 = .ok (.invokevirtual 205, 3) := by decide +kernel
theorem dX11_day_68 : decode cX11_day 68 = .ok (.invokevirtual 209, 3) := by decide +kernel
theorem dX11_day_71 : decode cX11_day 71 = .ok (.pop, 1) := by decide +kernel
theorem dX11_day_72 : decode cX11_day 72 = .ok (.aload_n 0, 1) := by decide +kernel
theorem dX11_day_73 : decode cX11_day 73 = .ok (.getfield 45, 3) := by decide +kernel
theorem dX11_day_76 : decode cX11_day 76 = .ok (.getfield 115, 3) := by decide +kernel
theorem dX11_day_79 : decode cX11_day 79 = .ok (.getfield 213, 3) := by decide +kernel
theorem dX11_day_82 : decode cX11_day 82 = .ok (.ireturn, 1) := by decide +kernel
theorem dX11_end_0 : decode cX11_end 0 = .ok (.iload_n 1, 1) := by decide +kernel
theorem dX11_end_1 : decode cX11_end 1 = .ok (.ifCond .lt 14, 3) := by decide +kernel
theorem dX11_end_4 : decode cX11_end 4 = .ok (.iload_n 1, 1) := by decide +kernel
theorem dX11_end_5 : decode cX11_end 5 = .ok (.aload_n 0, 1) := by decide +kernel
theorem dX11_end_6 : decode cX11_end 6 = .ok (.getfield 10, 3) := by decide +kernel
theorem dX11_end_9 : decode cX11_end 9 = .ok (.getfield 104, 3) := by decide +kernel
theorem dX11_end_12 : decode cX11_end 12 = .ok (.if_icmp .le 5, 3) := by decide +kernel
theorem dX11_end_15 : decode cX11_end 15 = .ok (.iconst (-1), 1) := by decide +kernel
theorem dX11_end_16 : decode cX11_end 16 = .ok (.ireturn, 1) := by decide +kernel
theorem dX11_end_17 : decode cX11_end 17 = .ok (.aload_n 0, 1) := by decide +kernel
theorem dX11_end_18 : decode cX11_end 18 = .ok (.getfield 10, 3) := by decide +kernel
theorem dX11_end_21 : decode cX11_end 21 = .ok (.iload_n 1, 1) := by decide +kernel
theorem dX11_end_22 : decode cX11_end 22 = .ok (.putfield 104, 3) := by decide +kernel
theorem dX11_end_25 : decode cX11_end 25 = .ok (.iload_n 1, 1) := by decide +kernel
theorem dX11_end_26 : decode cX11_end 26 = .ok (.ireturn, 1) := by decide +kernel
theorem dX11_falls_0 : decode cX11_falls 0 = .ok (.aload_n 0, 1) := by decide +kernel
theorem dX11_falls_1 : decode cX11_falls 1 = .ok (.iload_n 1, 1) := by decide +kernel
theorem dX11_falls_2 : decode cX11_falls 2 = .ok (.invokevirtual 228, 3) := by decide +kernel
theorem dX11_falls_5 : decode cX11_falls 5 = .ok (.ifCond .eq 14, 3) := by decide +kernel
theorem dX11_falls_8 : decode cX11_falls 8 = .ok (.iload_n 2, 1) := by decide +kernel
theorem dX11_falls_9 : decode cX11_falls 9 = .ok (.iconst 1, 1) := by decide +kernel
theorem dX11_falls_10 : decode cX11_falls 10 = .ok (.if_icmp .lt 9, 3) := by decide +kernel
theorem dX11_falls_13 : decode cX11_falls 13 = .ok (.iload_n 2, 1) := by decide +kernel
theorem dX11_falls_14 : decode cX11_falls 14 = .ok (.bipush 60, 2) := by decide +kernel
theorem dX11_falls_16 : decode cX11_falls 16 = .ok (.if_icmp .le 5, 3) := by decide +kernel
theorem dX11_falls_19 : decode cX11_falls 19 = .ok (.iconst (-1), 1) := by decide +kernel
theorem dX11_falls_20 : decode cX11_falls 20 = .ok (.ireturn, 1) := by decide +kernel
theorem dX11_falls_21 : decode cX11_falls 21 = .ok (.aload_n 0, 1) := by decide +kernel
theorem dX11_falls_22 : decode cX11_falls 22 = .ok (.getfield 45, 3) := by decide +kernel
theorem dX11_falls_25 : decode cX11_falls 25 = .ok (.getfield 115, 3) := by decide +kernel
theorem dX11_falls_28 : decode cX11_falls 28 = .ok (.iload_n 1, 1) := by decide +kernel
theorem dX11_falls_29 : decode cX11_falls 29 = .ok (.invokevirtual 301, 3) := by decide +kernel
theorem dX11_falls_32 : decode cX11_falls 32 = .ok (.istore_n 3, 1) := by decide +kernel
theorem dX11_falls_33 : decode cX11_falls 33 = .ok (.iload_n 3, 1) := by decide +kernel
theorem dX11_falls_34 : decode cX11_falls 34 = .ok (.aload_n 0, 1) := by decide +kernel
theorem dX11_falls_35 : decode cX11_falls 35 = .ok (.getfield 45, 3) := by decide +kernel
theorem dX11_falls_38 : decode cX11_falls 38 = .ok (.getfield 115, 3) := by decide +kernel
theorem dX11_falls_41 : decode cX11_falls 41 = .ok (.getfield 198, 3) := by decide +kernel
theorem dX11_falls_44 : decode cX11_falls 44 = .ok (.iload_n 2, 1) := by decide +kernel
theorem dX11_falls_45 : decode cX11_falls 45 = .ok (.iadd, 1) := by decide +kernel
theorem dX11_falls_46 : decode cX11_falls 46 = .ok (.if_icmp .ge 7, 3) := by decide +kernel
theorem dX11_falls_49 : decode cX11_falls 49 = .ok (.iload_n 3, 1) := by decide +kernel
theorem dX11_falls_50 : decode cX11_falls 50 = .ok (.goto 5, 3) := by decide +kernel
theorem dX11_falls_53 : decode cX11_falls 53 = .ok (.bipush (-2), 2) := by decide +kernel
theorem dX11_falls_55 : decode cX11_falls 55 = .ok (.ireturn, 1) := by decide +kernel
theorem dX11_farm_0 : decode cX11_farm 0 = .ok (.aload_n 0, 1) := by decide +kernel
theorem dX11_farm_1 : decode cX11_farm 1 = .ok (.iload_n 1, 1) := by decide +kernel
theorem dX11_farm_2 : decode cX11_farm 2 = .ok (.invokevirtual 173, 3) := by decide +kernel
theorem dX11_farm_5 : decode cX11_farm 5 = .ok (.ifCond .ne 6, 3) := by decide +kernel
theorem dX11_farm_8 : decode cX11_farm 8 = .ok (.bipush (-2), 2) := by decide +kernel
theorem dX11_farm_10 : decode cX11_farm 10 = .ok (.ireturn, 1) := by decide +kernel
theorem dX11_farm_11 : decode cX11_farm 11 = .ok (.iload_n 2, 1) := by decide +kernel
theorem dX11_farm_12 : decode cX11_farm 12 = .ok (.tableswitch 77 0 3 #[32, 45, 58, 71], 32) := by decide +kernel
theorem dX11_farm_44 : decode cX11_farm 44 = .ok (.aload_n 0, 1) := by decide +kernel
theorem dX11_farm_45 : decode cX11_farm 45 = .ok (.getfield 45, 3) := by decide +kernel
theorem dX11_farm_48 : decode cX11_farm 48 = .ok (.getfield 53, 3) := by decide +kernel
theorem dX11_farm_51 : decode cX11_farm 51 = .ok (.getfield 176, 3) := by decide +kernel
theorem dX11_farm_54 : decode cX11_farm 54 = .ok (.iload_n 1, 1) := by decide +kernel
theorem dX11_farm_55 : decode cX11_farm 55 = .ok (.iaload, 1) := by decide +kernel
theorem dX11_farm_56 : decode cX11_farm 56 = .ok (.ireturn, 1) := by decide +kernel
theorem dX11_farm_57 : decode cX11_farm 57 = .ok (.aload_n 0, 1) := by decide +kernel
theorem dX11_farm_58 : decode cX11_farm 58 = .ok (.getfield 45, 3) := by decide +kernel
theorem dX11_farm_61 : decode cX11_farm 61 = .ok (.getfield 53, 3) := by decide +kernel
theorem dX11_farm_64 : decode cX11_farm 64 = .ok (.getfield 179, 3) := by decide +kernel
theorem dX11_farm_67 : decode cX11_farm 67 = .ok (.iload_n 1, 1) := by decide +kernel
theorem dX11_farm_68 : decode cX11_farm 68 = .ok (.iaload, 1) := by decide +kernel
theorem dX11_farm_69 : decode cX11_farm 69 = .ok (.ireturn, 1) := by decide +kernel
theorem dX11_farm_70 : decode cX11_farm 70 = .ok (.aload_n 0, 1) := by decide +kernel
theorem dX11_farm_71 : decode cX11_farm 71 = .ok (.getfield 45, 3) := by decide +kernel
theorem dX11_farm_74 : decode cX11_farm 74 = .ok (.getfield 115, 3) := by decide +kernel
theorem dX11_farm_77 : decode cX11_farm 77 = .ok (.getfield 182, 3) := by decide +kernel
theorem dX11_farm_80 : decode cX11_farm 80 = .ok (.iload_n 1, 1) := by decide +kernel
theorem dX11_farm_81 : decode cX11_farm 81 = .ok (.iaload, 1) := by decide +kernel
theorem dX11_farm_82 : decode cX11_farm 82 = .ok (.ireturn, 1) := by decide +kernel
theorem dX11_farm_83 : decode cX11_farm 83 = .ok (.aload_n 0, 1) := by decide +kernel
theorem dX11_farm_84 : decode cX11_farm 84 = .ok (.iload_n 1, 1) := by decide +kernel
theorem dX11_farm_85 : decode cX11_farm 85 = .ok (.invokevirtual 185, 3) := by decide +kernel
theorem dX11_farm_88 : decode cX11_farm 88 = .ok (.ireturn, 1) := by decide +kernel
theorem dX11_farm_89 : decode cX11_farm 89 = .ok (.bipush (-2), 2) := by decide +kernel
theorem dX11_farm_91 : decode cX11_farm 91 = .ok (.ireturn, 1) := by decide +kernel
theorem dX11_feed_0 : decode cX11_feed 0 = .ok (.aload_n 0, 1) := by decide +kernel
theorem dX11_feed_1 : decode cX11_feed 1 = .ok (.getfield 10, 3) := by decide +kernel
theorem dX11_feed_4 : decode cX11_feed 4 = .ok (.bipush 20, 2) := by decide +kernel
theorem dX11_feed_6 : decode cX11_feed 6 = .ok (.invokevirtual 96, 3) := by decide +kernel
theorem dX11_feed_9 : decode cX11_feed 9 = .ok (.ifCond .ne 5, 3) := by decide +kernel
theorem dX11_feed_12 : decode cX11_feed 12 = .ok (.iconst (-1), 1) := by decide +kernel
theorem dX11_feed_13 : decode cX11_feed 13 = .ok (.ireturn, 1) := by decide +kernel
theorem dX11_feed_14 : decode cX11_feed 14 = .ok (.aload_n 0, 1) := by decide +kernel
theorem dX11_feed_15 : decode cX11_feed 15 = .ok (.getfield 10, 3) := by decide +kernel
theorem dX11_feed_18 : decode cX11_feed 18 = .ok (.iload_n 1, 1) := by decide +kernel
theorem dX11_feed_19 : decode cX11_feed 19 = .ok (.invokevirtual 100, 3) := by decide +kernel
theorem dX11_feed_22 : decode cX11_feed 22 = .ok (.aload_n 0, 1) := by decide +kernel
theorem dX11_feed_23 : decode cX11_feed 23 = .ok (.getfield 10, 3) := by decide +kernel
theorem dX11_feed_26 : decode cX11_feed 26 = .ok (.iload_n 2, 1) := by decide +kernel
theorem dX11_feed_27 : decode cX11_feed 27 = .ok (.invokevirtual 100, 3) := by decide +kernel
theorem dX11_feed_30 : decode cX11_feed 30 = .ok (.aload_n 0, 1) := by decide +kernel
theorem dX11_feed_31 : decode cX11_feed 31 = .ok (.getfield 10, 3) := by decide +kernel
theorem dX11_feed_34 : decode cX11_feed 34 = .ok (.iload_n 3, 1) := by decide +kernel
theorem dX11_feed_35 : decode cX11_feed 35 = .ok (.invokevirtual 100, 3) := by decide +kernel
theorem dX11_feed_38 : decode cX11_feed 38 = .ok (.aload_n 0, 1) := by decide +kernel
theorem dX11_feed_39 : decode cX11_feed 39 = .ok (.getfield 10, 3) := by decide +kernel
theorem dX11_feed_42 : decode cX11_feed 42 = .ok (.iload 4, 2) := by decide +kernel
theorem dX11_feed_44 : decode cX11_feed 44 = .ok (.invokevirtual 100, 3) := by decide +kernel
theorem dX11_feed_47 : decode cX11_feed 47 = .ok (.aload_n 0, 1) := by decide +kernel
theorem dX11_feed_48 : decode cX11_feed 48 = .ok (.getfield 10, 3) := by decide +kernel
theorem dX11_feed_51 : decode cX11_feed 51 = .ok (.iload 5, 2) := by decide +kernel
theorem dX11_feed_53 : decode cX11_feed 53 = .ok (.invokevirtual 100, 3) := by decide +kernel
theorem dX11_feed_56 : decode cX11_feed 56 = .ok (.aload_n 0, 1) := by decide +kernel
theorem dX11_feed_57 : decode cX11_feed 57 = .ok (.getfield 10, 3) := by decide +kernel
theorem dX11_feed_60 : decode cX11_feed 60 = .ok (.getfield 104, 3) := by decide +kernel
theorem dX11_feed_63 : decode cX11_feed 63 = .ok (.ireturn, 1) := by decide +kernel
theorem dX11_hoursFromChurch_0 : decode cX11_hoursFromChurch 0 = .ok (.aload_n 0, 1) := by decide +kernel
theorem dX11_hoursFromChurch_1 : decode cX11_hoursFromChurch 1 = .ok (.getfield 45, 3) := by decide +kernel
theorem dX11_hoursFromChurch_4 : decode cX11_hoursFromChurch 4 = .ok (.getfield 53, 3) := by decide +kernel
theorem dX11_hoursFromChurch_7 : decode cX11_hoursFromChurch 7 = .ok (.iconst 0, 1) := by decide +kernel
theorem dX11_hoursFromChurch_8 : decode cX11_hoursFromChurch 8 = .ok (.iload_n 1, 1) := by decide +kernel
theorem dX11_hoursFromChurch_9 : decode cX11_hoursFromChurch 9 = .ok (.iconst 1, 1) := by decide +kernel
theorem dX11_hoursFromChurch_10 : decode cX11_hoursFromChurch 10 = .ok (.iadd, 1) := by decide +kernel
theorem dX11_hoursFromChurch_11 : decode cX11_hoursFromChurch 11 = .ok (.invokevirtual 189, 3) := by decide +kernel
theorem dX11_hoursFromChurch_14 : decode cX11_hoursFromChurch 14 = .ok (.istore_n 2, 1) := by decide +kernel
theorem dX11_hoursFromChurch_15 : decode cX11_hoursFromChurch 15 = .ok (.iload_n 2, 1) := by decide +kernel
theorem dX11_hoursFromChurch_16 : decode cX11_hoursFromChurch 16 = .ok (.ldc 193, 2) := by decide +kernel
theorem dX11_hoursFromChurch_18 : decode cX11_hoursFromChurch 18 = .ok (.if_icmp .ge 7, 3) := by decide +kernel
theorem dX11_hoursFromChurch_21 : decode cX11_hoursFromChurch 21 = .ok (.iload_n 2, 1) := by decide +kernel
theorem dX11_hoursFromChurch_22 : decode cX11_hoursFromChurch 22 = .ok (.goto 4, 3) := by decide +kernel
theorem dX11_hoursFromChurch_25 : decode cX11_hoursFromChurch 25 = .ok (.iconst (-1), 1) := by decide +kernel
theorem dX11_hoursFromChurch_26 : decode cX11_hoursFromChurch 26 = .ok (.ireturn, 1) := by decide +kernel
theorem dX11_isAlive_0 : decode cX11_isAlive 0 = .ok (.aload_n 0, 1) := by decide +kernel
theorem dX11_isAlive_1 : decode cX11_isAlive 1 = .ok (.iload_n 1, 1) := by decide +kernel
theorem dX11_isAlive_2 : decode cX11_isAlive 2 = .ok (.invokevirtual 158, 3) := by decide +kernel
theorem dX11_isAlive_5 : decode cX11_isAlive 5 = .ok (.ifCond .eq 24, 3) := by decide +kernel
theorem dX11_isAlive_8 : decode cX11_isAlive 8 = .ok (.aload_n 0, 1) := by decide +kernel
theorem dX11_isAlive_9 : decode cX11_isAlive 9 = .ok (.getfield 45, 3) := by decide +kernel
theorem dX11_isAlive_12 : decode cX11_isAlive 12 = .ok (.getfield 115, 3) := by decide +kernel
theorem dX11_isAlive_15 : decode cX11_isAlive 15 = .ok (.getfield 161, 3) := by decide +kernel
theorem dX11_isAlive_18 : decode cX11_isAlive 18 = .ok (.iload_n 1, 1) := by decide +kernel
theorem dX11_isAlive_19 : decode cX11_isAlive 19 = .ok (.iaload, 1) := by decide +kernel
theorem dX11_isAlive_20 : decode cX11_isAlive 20 = .ok (.bipush 100, 2) := by decide +kernel
theorem dX11_isAlive_22 : decode cX11_isAlive 22 = .ok (.if_icmp .ge 7, 3) := by decide +kernel
theorem dX11_isAlive_25 : decode cX11_isAlive 25 = .ok (.iconst 1, 1) := by decide +kernel
theorem dX11_isAlive_26 : decode cX11_isAlive 26 = .ok (.goto 4, 3) := by decide +kernel
theorem dX11_isAlive_29 : decode cX11_isAlive 29 = .ok (.iconst 0, 1) := by decide +kernel
theorem dX11_isAlive_30 : decode cX11_isAlive 30 = .ok (.ireturn, 1) := by decide +kernel
theorem dX9_add_0 : decode cX9_add 0 = .ok (.bipush 24, 2) := by decide +kernel
theorem dX9_add_2 : decode cX9_add 2 = .ok (.istore_n 2, 1) := by decide +kernel
theorem dX9_add_3 : decode cX9_add 3 = .ok (.iload_n 2, 1) := by decide +kernel
theorem dX9_add_4 : decode cX9_add 4 = .ok (.ifCond .lt 42, 3) := by decide +kernel
theorem dX9_add_7 : decode cX9_add 7 = .ok (.aload_n 0, 1) := by decide +kernel
theorem dX9_add_8 : decode cX9_add 8 = .ok (.getfield 15, 3) := by decide +kernel
theorem dX9_add_11 : decode cX9_add 11 = .ok (.sipush 400, 3) := by decide +kernel
theorem dX9_add_14 : decode cX9_add 14 = .ok (.if_icmp .ge 32, 3) := by decide +kernel
theorem dX9_add_17 : decode cX9_add 17 = .ok (.aload_n 0, 1) := by decide +kernel
theorem dX9_add_18 : decode cX9_add 18 = .ok (.getfield 11, 3) := by decide +kernel
theorem dX9_add_21 : decode cX9_add 21 = .ok (.aload_n 0, 1) := by decide +kernel
theorem dX9_add_22 : decode cX9_add 22 = .ok (.getfield 15, 3) := by decide +kernel
theorem dX9_add_25 : decode cX9_add 25 = .ok (.iload_n 1, 1) := by decide +kernel
theorem dX9_add_26 : decode cX9_add 26 = .ok (.iload_n 2, 1) := by decide +kernel
theorem dX9_add_27 : decode cX9_add 27 = .ok (.ishr, 1) := by decide +kernel
theorem dX9_add_28 : decode cX9_add 28 = .ok (.i2b, 1) := by decide +kernel
theorem dX9_add_29 : decode cX9_add 29 = .ok (.bastore, 1) := by decide +kernel
theorem dX9_add_30 : decode cX9_add 30 = .ok (.aload_n 0, 1) := by decide +kernel
theorem dX9_add_31 : decode cX9_add 31 = .ok (.dup, 1) := by decide +kernel
theorem dX9_add_32 : decode cX9_add 32 = .ok (.getfield 15, 3) := by decide +kernel
theorem dX9_add_35 : decode cX9_add 35 = .ok (.iconst 1, 1) := by decide +kernel
theorem dX9_add_36 : decode cX9_add 36 = .ok (.iadd, 1) := by decide +kernel
theorem dX9_add_37 : decode cX9_add 37 = .ok (.putfield 15, 3) := by decide +kernel
theorem dX9_add_40 : decode cX9_add 40 = .ok (.iinc 2 (-8), 3) := by decide +kernel
theorem dX9_add_43 : decode cX9_add 43 = .ok (.goto (-40), 3) := by decide +kernel
theorem dX9_add_46 : decode cX9_add 46 = .ok (.return_, 1) := by decide +kernel
theorem dX9_hasRoom_0 : decode cX9_hasRoom 0 = .ok (.aload_n 0, 1) := by decide +kernel
theorem dX9_hasRoom_1 : decode cX9_hasRoom 1 = .ok (.getfield 15, 3) := by decide +kernel
theorem dX9_hasRoom_4 : decode cX9_hasRoom 4 = .ok (.iload_n 1, 1) := by decide +kernel
theorem dX9_hasRoom_5 : decode cX9_hasRoom 5 = .ok (.iadd, 1) := by decide +kernel
theorem dX9_hasRoom_6 : decode cX9_hasRoom 6 = .ok (.sipush 400, 3) := by decide +kernel
theorem dX9_hasRoom_9 : decode cX9_hasRoom 9 = .ok (.if_icmp .gt 7, 3) := by decide +kernel
theorem dX9_hasRoom_12 : decode cX9_hasRoom 12 = .ok (.iconst 1, 1) := by decide +kernel
theorem dX9_hasRoom_13 : decode cX9_hasRoom 13 = .ok (.goto 4, 3) := by decide +kernel
theorem dX9_hasRoom_16 : decode cX9_hasRoom 16 = .ok (.iconst 0, 1) := by decide +kernel
theorem dX9_hasRoom_17 : decode cX9_hasRoom 17 = .ok (.ireturn, 1) := by decide +kernel
theorem li_400 : (400 : Int32).toInt = 400 := by decide
theorem li_999 : (999 : Int32).toInt = 999 := by decide
theorem li_m8 : ((-8) : Int32).toInt = -8 := by decide
set_option maxHeartbeats 4000000 in
set_option maxRecDepth 100000 in
theorem t_X11_count (l : Launch) (dC : Nat → ClassId) (dI : Nat → Nat → Nat) (tys : List (ClassId × FieldType)) (κ : tK) (B : Nat) (ws : va_W) (hT : Ty κ tys B ws) (a0 : Nat) (k_a0 : κ a0 = some 11) (a1 : Int32) (sz : Nat) : Met l yX11_count (ws_u yX11_count cX11_count 2 (some .int)) ({ frames := 2, cells := 0, slots := 0, locals := 45 }) (va_Pc [.ref a0, .int a1] (cPre (dC, dI) tys ws sz)) (va_Qi (fun (r : Int32) (w : va_W) => Ty κ tys B w ∧ Sm [] [] κ ws w) (fun w t => cPost (dC, dI) tys w (va_A ws sz) t) (va_A ws sz)) 0 0 (va_A ws sz) := by
  refine Met.ofW (cc := cX11_count) (maxL := 2) (ret := (some .int)) (by decide) rfl ?_
  intro p e s m args below meth c s₁ B0 hml hv
  obtain ⟨rfl, hsz, hP, hK, hD0, hE⟩ := hv
  have hx := B0.exec
  have hb := B0.bytes
  have hr := B0.returns
  have hts0 := atoms_spec (ws := ws_u yX11_count cX11_count 2 (some .int)) B0.pre
  have hts : ∀ w ∈ gT, w.before _ s = true := fun w h => hts0 w (List.mem_cons_of_mem _ h)
  have hown : s.vm.findClass RX11 = some m.cls := findClass_of_methodNamed B0.named
  have hlocks := B0.notSynchronized
  subst hsz
  have hD := hD0.self (sz := s.heap.size)
  generalize hAe : va_A ws s.heap.size = A at hD ⊢
  have hA : ∀ q : Nat, s.heap.size ≤ q → A q := fun q h => by rw [← hAe]; exact Or.inr h
  have hw : tW (dC, dI) tys κ B A s ws s.heap [] := ⟨hK, hP, hD, va_S.rf, hT⟩
  have hM : Sm [] [] κ ws ws := Sm.rf
  clear hP hK hD hD0 hts0
  have l_a1 := i32_lo a1
  have h_a1 := i32_hi a1
  have hl := lv_entry ([.ref a0, .int a1]) (n := 2) (Nat.le_of_ble_eq_true rfl)
  rw [lg_entry_eq]
  generalize (lg_sl ([.ref a0, .int a1]) ++ List.replicate (2 - (lg_sl ([.ref a0, .int a1])).length) Slot.unset).toArray = ls at hl ⊢
  have hl : lv_has ls 2 [(0, .ref a0), (1, .int a1)] := hl
  refine t_start (fun QQ hQ => ?_)
  refine lv_iload_n hx hb dX11_count_0 rfl (lv_at hl 1 rfl) ?_
  rcases Classical.em (a1.toInt = 0) with c_1_0 | c_1_0
  · refine lv_tableIn (tgt := 96) hx hb dX11_count_1 (by omega) (by omega) (by rw [c_1_0]; rfl) (by decide) ?_
    refine lv_aload_n hx hb dX11_count_96 rfl (lv_at hl 0 rfl) ?_
    refine t_getr (k1 := 10) (ci := 11) (C := RX11) (T := TX11) (N := 12) hx hb hts iX11 hown hw k_a0 rfl rfl rfl 5 (by decide) (hts _ tw_428) (fun _ h9 => h9) dX11_count_97 rfl (fun v97 k_v97 f_a0_X11_5 => ?_)
    refine t_getr (k1 := 0) (ci := 10) (C := RX10) (T := TX10) (N := 8) hx hb hts iX10 hown hw k_v97 rfl rfl rfl 0 (by decide) (hts _ tw_282) (fun _ h9 => h9) dX11_count_100 rfl (fun v100 k_v100 f_v97_X10_0 => ?_)
    refine t_geti (ci := 0) (C := RX0) (T := TX0) (N := 16) hx hb hts iX0 hown hw k_v100 rfl rfl rfl 1 (by decide) (hts _ tw_72) (fun _ h9 => h9) dX11_count_103 rfl (fun v103 l_v103 h_v103 f_v100_X0_1 => ?_)
    have l_v103 : (-2147483648) ≤ v103.toInt := l_v103
    have h_v103 : v103.toInt ≤ 2147483647 := h_v103
    rw [hQ]
    refine W.widen (k := 0) (n := 0) (Nat.le_refl _) (Nat.le_refl _) ?_
    exact W.iret (v := v103) hx hb hr (fun t ht hW => ⟨⟨v103, ws, rfl, ⟨hw.2.2.2.2, hM⟩, by rw [ht]; exact hw.2.1, va_K.moved hW.alike hw.1, hw.2.2.1⟩, hw.2.2.2.1.F ht⟩) hw.2.2.2.1.2.2 dX11_count_106
  rcases Classical.em (a1.toInt = 1) with c_1_1 | c_1_1
  · refine lv_tableIn (tgt := 107) hx hb dX11_count_1 (by omega) (by omega) (by rw [c_1_1]; rfl) (by decide) ?_
    refine lv_aload_n hx hb dX11_count_107 rfl (lv_at hl 0 rfl) ?_
    refine t_getr (k1 := 10) (ci := 11) (C := RX11) (T := TX11) (N := 12) hx hb hts iX11 hown hw k_a0 rfl rfl rfl 5 (by decide) (hts _ tw_428) (fun _ h9 => h9) dX11_count_108 rfl (fun v108 k_v108 f_a0_X11_5 => ?_)
    refine t_getr (k1 := 0) (ci := 10) (C := RX10) (T := TX10) (N := 8) hx hb hts iX10 hown hw k_v108 rfl rfl rfl 0 (by decide) (hts _ tw_282) (fun _ h9 => h9) dX11_count_111 rfl (fun v111 k_v111 f_v108_X10_0 => ?_)
    refine t_geti (ci := 0) (C := RX0) (T := TX0) (N := 16) hx hb hts iX0 hown hw k_v111 rfl rfl rfl 2 (by decide) (hts _ tw_75) (fun _ h9 => h9) dX11_count_114 rfl (fun v114 l_v114 h_v114 f_v111_X0_2 => ?_)
    have l_v114 : (-2147483648) ≤ v114.toInt := l_v114
    have h_v114 : v114.toInt ≤ 2147483647 := h_v114
    rw [hQ]
    refine W.widen (k := 0) (n := 0) (Nat.le_refl _) (Nat.le_refl _) ?_
    exact W.iret (v := v114) hx hb hr (fun t ht hW => ⟨⟨v114, ws, rfl, ⟨hw.2.2.2.2, hM⟩, by rw [ht]; exact hw.2.1, va_K.moved hW.alike hw.1, hw.2.2.1⟩, hw.2.2.2.1.F ht⟩) hw.2.2.2.1.2.2 dX11_count_117
  rcases Classical.em (a1.toInt = 2) with c_1_2 | c_1_2
  · refine lv_tableIn (tgt := 118) hx hb dX11_count_1 (by omega) (by omega) (by rw [c_1_2]; rfl) (by decide) ?_
    refine lv_aload_n hx hb dX11_count_118 rfl (lv_at hl 0 rfl) ?_
    refine t_getr (k1 := 10) (ci := 11) (C := RX11) (T := TX11) (N := 12) hx hb hts iX11 hown hw k_a0 rfl rfl rfl 5 (by decide) (hts _ tw_428) (fun _ h9 => h9) dX11_count_119 rfl (fun v119 k_v119 f_a0_X11_5 => ?_)
    refine t_getr (k1 := 0) (ci := 10) (C := RX10) (T := TX10) (N := 8) hx hb hts iX10 hown hw k_v119 rfl rfl rfl 0 (by decide) (hts _ tw_282) (fun _ h9 => h9) dX11_count_122 rfl (fun v122 k_v122 f_v119_X10_0 => ?_)
    refine t_geti (ci := 0) (C := RX0) (T := TX0) (N := 16) hx hb hts iX0 hown hw k_v122 rfl rfl rfl 3 (by decide) (hts _ tw_80) (fun _ h9 => h9) dX11_count_125 rfl (fun v125 l_v125 h_v125 f_v122_X0_3 => ?_)
    have l_v125 : 0 ≤ v125.toInt := l_v125
    have h_v125 : v125.toInt ≤ 6 := h_v125
    rw [hQ]
    refine W.widen (k := 0) (n := 0) (Nat.le_refl _) (Nat.le_refl _) ?_
    exact W.iret (v := v125) hx hb hr (fun t ht hW => ⟨⟨v125, ws, rfl, ⟨hw.2.2.2.2, hM⟩, by rw [ht]; exact hw.2.1, va_K.moved hW.alike hw.1, hw.2.2.1⟩, hw.2.2.2.1.F ht⟩) hw.2.2.2.1.2.2 dX11_count_128
  rcases Classical.em (a1.toInt = 3) with c_1_3 | c_1_3
  · refine lv_tableIn (tgt := 129) hx hb dX11_count_1 (by omega) (by omega) (by rw [c_1_3]; rfl) (by decide) ?_
    refine lv_aload_n hx hb dX11_count_129 rfl (lv_at hl 0 rfl) ?_
    refine t_getr (k1 := 10) (ci := 11) (C := RX11) (T := TX11) (N := 12) hx hb hts iX11 hown hw k_a0 rfl rfl rfl 5 (by decide) (hts _ tw_428) (fun _ h9 => h9) dX11_count_130 rfl (fun v130 k_v130 f_a0_X11_5 => ?_)
    refine t_getr (k1 := 0) (ci := 10) (C := RX10) (T := TX10) (N := 8) hx hb hts iX10 hown hw k_v130 rfl rfl rfl 0 (by decide) (hts _ tw_282) (fun _ h9 => h9) dX11_count_133 rfl (fun v133 k_v133 f_v130_X10_0 => ?_)
    refine t_geti (ci := 0) (C := RX0) (T := TX0) (N := 16) hx hb hts iX0 hown hw k_v133 rfl rfl rfl 4 (by decide) (hts _ tw_85) (fun _ h9 => h9) dX11_count_136 rfl (fun v136 l_v136 h_v136 f_v133_X0_4 => ?_)
    have l_v136 : 0 ≤ v136.toInt := l_v136
    have h_v136 : v136.toInt ≤ 4 := h_v136
    rw [hQ]
    refine W.widen (k := 0) (n := 0) (Nat.le_refl _) (Nat.le_refl _) ?_
    exact W.iret (v := v136) hx hb hr (fun t ht hW => ⟨⟨v136, ws, rfl, ⟨hw.2.2.2.2, hM⟩, by rw [ht]; exact hw.2.1, va_K.moved hW.alike hw.1, hw.2.2.1⟩, hw.2.2.2.1.F ht⟩) hw.2.2.2.1.2.2 dX11_count_139
  rcases Classical.em (a1.toInt = 4) with c_1_4 | c_1_4
  · refine lv_tableIn (tgt := 140) hx hb dX11_count_1 (by omega) (by omega) (by rw [c_1_4]; rfl) (by decide) ?_
    refine lv_aload_n hx hb dX11_count_140 rfl (lv_at hl 0 rfl) ?_
    refine t_getr (k1 := 10) (ci := 11) (C := RX11) (T := TX11) (N := 12) hx hb hts iX11 hown hw k_a0 rfl rfl rfl 5 (by decide) (hts _ tw_428) (fun _ h9 => h9) dX11_count_141 rfl (fun v141 k_v141 f_a0_X11_5 => ?_)
    refine t_getr (k1 := 0) (ci := 10) (C := RX10) (T := TX10) (N := 8) hx hb hts iX10 hown hw k_v141 rfl rfl rfl 0 (by decide) (hts _ tw_282) (fun _ h9 => h9) dX11_count_144 rfl (fun v144 k_v144 f_v141_X10_0 => ?_)
    refine t_geti (ci := 0) (C := RX0) (T := TX0) (N := 16) hx hb hts iX0 hown hw k_v144 rfl rfl rfl 5 (by decide) (hts _ tw_89) (fun _ h9 => h9) dX11_count_147 rfl (fun v147 l_v147 h_v147 f_v144_X0_5 => ?_)
    have l_v147 : 0 ≤ v147.toInt := l_v147
    have h_v147 : v147.toInt ≤ 6 := h_v147
    rw [hQ]
    refine W.widen (k := 0) (n := 0) (Nat.le_refl _) (Nat.le_refl _) ?_
    exact W.iret (v := v147) hx hb hr (fun t ht hW => ⟨⟨v147, ws, rfl, ⟨hw.2.2.2.2, hM⟩, by rw [ht]; exact hw.2.1, va_K.moved hW.alike hw.1, hw.2.2.1⟩, hw.2.2.2.1.F ht⟩) hw.2.2.2.1.2.2 dX11_count_150
  rcases Classical.em (a1.toInt = 5) with c_1_5 | c_1_5
  · refine lv_tableIn (tgt := 151) hx hb dX11_count_1 (by omega) (by omega) (by rw [c_1_5]; rfl) (by decide) ?_
    refine lv_aload_n hx hb dX11_count_151 rfl (lv_at hl 0 rfl) ?_
    refine t_geti (ci := 11) (C := RX11) (T := TX11) (N := 12) hx hb hts iX11 hown hw k_a0 rfl rfl rfl 4 (by decide) (hts _ tw_427) (fun _ h9 => h9) dX11_count_152 rfl (fun v152 l_v152 h_v152 f_a0_X11_4 => ?_)
    have l_v152 : 0 ≤ v152.toInt := l_v152
    have h_v152 : v152.toInt ≤ 6 := h_v152
    rw [hQ]
    refine W.widen (k := 0) (n := 0) (Nat.le_refl _) (Nat.le_refl _) ?_
    exact W.iret (v := v152) hx hb hr (fun t ht hW => ⟨⟨v152, ws, rfl, ⟨hw.2.2.2.2, hM⟩, by rw [ht]; exact hw.2.1, va_K.moved hW.alike hw.1, hw.2.2.1⟩, hw.2.2.2.1.F ht⟩) hw.2.2.2.1.2.2 dX11_count_155
  rcases Classical.em (a1.toInt = 6) with c_1_6 | c_1_6
  · refine lv_tableIn (tgt := 156) hx hb dX11_count_1 (by omega) (by omega) (by rw [c_1_6]; rfl) (by decide) ?_
    refine lv_aload_n hx hb dX11_count_156 rfl (lv_at hl 0 rfl) ?_
    refine t_getr (k1 := 10) (ci := 11) (C := RX11) (T := TX11) (N := 12) hx hb hts iX11 hown hw k_a0 rfl rfl rfl 5 (by decide) (hts _ tw_428) (fun _ h9 => h9) dX11_count_157 rfl (fun v157 k_v157 f_a0_X11_5 => ?_)
    refine t_geti (ci := 10) (C := RX10) (T := TX10) (N := 8) hx hb hts iX10 hown hw k_v157 rfl rfl rfl 2 (by decide) (hts _ tw_287) (fun _ h9 => h9) dX11_count_160 rfl (fun v160 l_v160 h_v160 f_v157_X10_2 => ?_)
    have l_v160 : (-2147483648) ≤ v160.toInt := l_v160
    have h_v160 : v160.toInt ≤ 2147483647 := h_v160
    rw [hQ]
    refine W.widen (k := 0) (n := 0) (Nat.le_refl _) (Nat.le_refl _) ?_
    exact W.iret (v := v160) hx hb hr (fun t ht hW => ⟨⟨v160, ws, rfl, ⟨hw.2.2.2.2, hM⟩, by rw [ht]; exact hw.2.1, va_K.moved hW.alike hw.1, hw.2.2.1⟩, hw.2.2.2.1.F ht⟩) hw.2.2.2.1.2.2 dX11_count_163
  rcases Classical.em (a1.toInt = 7) with c_1_7 | c_1_7
  · refine lv_tableIn (tgt := 196) hx hb dX11_count_1 (by omega) (by omega) (by rw [c_1_7]; rfl) (by decide) ?_
    refine lv_aload_n hx hb dX11_count_196 rfl (lv_at hl 0 rfl) ?_
    refine lv_iload_n hx hb dX11_count_197 rfl (lv_at hl 1 rfl) ?_
    refine t_calli (va_runV (As := [.int a1]) (rest := []) ⟨hx, hb, hml, hown, hts⟩ (t_X11_countOfStanding l dC dI tys κ B ws hw.2.2.2.2 a0 k_a0 a1 s.heap.size) (cwV 1 hts (gUV tw_1099 tw_1101 ts_2_15 tw_1 tw_1102) rfl rfl rfl (by decide +kernel) ⟨(Nat.le_of_ble_eq_true rfl), (Nat.le_of_ble_eq_true rfl)⟩) ⟨cPre.blind, t_recv hw (ci := 11) k_a0 rfl rfl, cPre.use hw.2.1 hw.1 hw.2.2.1 hE⟩ rfl rfl hl.1 rfl (lv_room (Nat.le_of_ble_eq_true rfl)) dX11_count_198 ⟨(Nat.le_of_ble_eq_true rfl), (Nat.le_of_ble_eq_true rfl)⟩) hw hA (fun _ _ h => h.1) (fun v198 w_1 H locs hp hw => ?_)
    obtain ⟨_, hm⟩ := hp
    have l_v198 := i32_lo v198
    have h_v198 := i32_hi v198
    have hM := hM.trans hm (by decide) (by decide)
    rw [hQ]
    refine W.widen (k := 0) (n := 0) (Nat.le_refl _) (Nat.le_refl _) ?_
    exact W.iret (v := v198) hx hb hr (fun t ht hW => ⟨⟨v198, w_1, rfl, ⟨hw.2.2.2.2, hM⟩, by rw [ht]; exact hw.2.1, va_K.moved hW.alike hw.1, hw.2.2.1⟩, hw.2.2.2.1.F ht⟩) hw.2.2.2.1.2.2 dX11_count_201
  rcases Classical.em (a1.toInt = 8) with c_1_8 | c_1_8
  · refine lv_tableIn (tgt := 196) hx hb dX11_count_1 (by omega) (by omega) (by rw [c_1_8]; rfl) (by decide) ?_
    refine lv_aload_n hx hb dX11_count_196 rfl (lv_at hl 0 rfl) ?_
    refine lv_iload_n hx hb dX11_count_197 rfl (lv_at hl 1 rfl) ?_
    refine t_calli (va_runV (As := [.int a1]) (rest := []) ⟨hx, hb, hml, hown, hts⟩ (t_X11_countOfStanding l dC dI tys κ B ws hw.2.2.2.2 a0 k_a0 a1 s.heap.size) (cwV 1 hts (gUV tw_1099 tw_1101 ts_2_15 tw_1 tw_1102) rfl rfl rfl (by decide +kernel) ⟨(Nat.le_of_ble_eq_true rfl), (Nat.le_of_ble_eq_true rfl)⟩) ⟨cPre.blind, t_recv hw (ci := 11) k_a0 rfl rfl, cPre.use hw.2.1 hw.1 hw.2.2.1 hE⟩ rfl rfl hl.1 rfl (lv_room (Nat.le_of_ble_eq_true rfl)) dX11_count_198 ⟨(Nat.le_of_ble_eq_true rfl), (Nat.le_of_ble_eq_true rfl)⟩) hw hA (fun _ _ h => h.1) (fun v198 w_2 H locs hp hw => ?_)
    obtain ⟨_, hm⟩ := hp
    have l_v198 := i32_lo v198
    have h_v198 := i32_hi v198
    have hM := hM.trans hm (by decide) (by decide)
    rw [hQ]
    refine W.widen (k := 0) (n := 0) (Nat.le_refl _) (Nat.le_refl _) ?_
    exact W.iret (v := v198) hx hb hr (fun t ht hW => ⟨⟨v198, w_2, rfl, ⟨hw.2.2.2.2, hM⟩, by rw [ht]; exact hw.2.1, va_K.moved hW.alike hw.1, hw.2.2.1⟩, hw.2.2.2.1.F ht⟩) hw.2.2.2.1.2.2 dX11_count_201
  rcases Classical.em (a1.toInt = 9) with c_1_9 | c_1_9
  · refine lv_tableIn (tgt := 196) hx hb dX11_count_1 (by omega) (by omega) (by rw [c_1_9]; rfl) (by decide) ?_
    refine lv_aload_n hx hb dX11_count_196 rfl (lv_at hl 0 rfl) ?_
    refine lv_iload_n hx hb dX11_count_197 rfl (lv_at hl 1 rfl) ?_
    refine t_calli (va_runV (As := [.int a1]) (rest := []) ⟨hx, hb, hml, hown, hts⟩ (t_X11_countOfStanding l dC dI tys κ B ws hw.2.2.2.2 a0 k_a0 a1 s.heap.size) (cwV 1 hts (gUV tw_1099 tw_1101 ts_2_15 tw_1 tw_1102) rfl rfl rfl (by decide +kernel) ⟨(Nat.le_of_ble_eq_true rfl), (Nat.le_of_ble_eq_true rfl)⟩) ⟨cPre.blind, t_recv hw (ci := 11) k_a0 rfl rfl, cPre.use hw.2.1 hw.1 hw.2.2.1 hE⟩ rfl rfl hl.1 rfl (lv_room (Nat.le_of_ble_eq_true rfl)) dX11_count_198 ⟨(Nat.le_of_ble_eq_true rfl), (Nat.le_of_ble_eq_true rfl)⟩) hw hA (fun _ _ h => h.1) (fun v198 w_3 H locs hp hw => ?_)
    obtain ⟨_, hm⟩ := hp
    have l_v198 := i32_lo v198
    have h_v198 := i32_hi v198
    have hM := hM.trans hm (by decide) (by decide)
    rw [hQ]
    refine W.widen (k := 0) (n := 0) (Nat.le_refl _) (Nat.le_refl _) ?_
    exact W.iret (v := v198) hx hb hr (fun t ht hW => ⟨⟨v198, w_3, rfl, ⟨hw.2.2.2.2, hM⟩, by rw [ht]; exact hw.2.1, va_K.moved hW.alike hw.1, hw.2.2.1⟩, hw.2.2.2.1.F ht⟩) hw.2.2.2.1.2.2 dX11_count_201
  rcases Classical.em (a1.toInt = 10) with c_1_10 | c_1_10
  · refine lv_tableIn (tgt := 196) hx hb dX11_count_1 (by omega) (by omega) (by rw [c_1_10]; rfl) (by decide) ?_
    refine lv_aload_n hx hb dX11_count_196 rfl (lv_at hl 0 rfl) ?_
    refine lv_iload_n hx hb dX11_count_197 rfl (lv_at hl 1 rfl) ?_
    refine t_calli (va_runV (As := [.int a1]) (rest := []) ⟨hx, hb, hml, hown, hts⟩ (t_X11_countOfStanding l dC dI tys κ B ws hw.2.2.2.2 a0 k_a0 a1 s.heap.size) (cwV 1 hts (gUV tw_1099 tw_1101 ts_2_15 tw_1 tw_1102) rfl rfl rfl (by decide +kernel) ⟨(Nat.le_of_ble_eq_true rfl), (Nat.le_of_ble_eq_true rfl)⟩) ⟨cPre.blind, t_recv hw (ci := 11) k_a0 rfl rfl, cPre.use hw.2.1 hw.1 hw.2.2.1 hE⟩ rfl rfl hl.1 rfl (lv_room (Nat.le_of_ble_eq_true rfl)) dX11_count_198 ⟨(Nat.le_of_ble_eq_true rfl), (Nat.le_of_ble_eq_true rfl)⟩) hw hA (fun _ _ h => h.1) (fun v198 w_4 H locs hp hw => ?_)
    obtain ⟨_, hm⟩ := hp
    have l_v198 := i32_lo v198
    have h_v198 := i32_hi v198
    have hM := hM.trans hm (by decide) (by decide)
    rw [hQ]
    refine W.widen (k := 0) (n := 0) (Nat.le_refl _) (Nat.le_refl _) ?_
    exact W.iret (v := v198) hx hb hr (fun t ht hW => ⟨⟨v198, w_4, rfl, ⟨hw.2.2.2.2, hM⟩, by rw [ht]; exact hw.2.1, va_K.moved hW.alike hw.1, hw.2.2.1⟩, hw.2.2.2.1.F ht⟩) hw.2.2.2.1.2.2 dX11_count_201
  rcases Classical.em (a1.toInt = 11) with c_1_11 | c_1_11
  · refine lv_tableIn (tgt := 196) hx hb dX11_count_1 (by omega) (by omega) (by rw [c_1_11]; rfl) (by decide) ?_
    refine lv_aload_n hx hb dX11_count_196 rfl (lv_at hl 0 rfl) ?_
    refine lv_iload_n hx hb dX11_count_197 rfl (lv_at hl 1 rfl) ?_
    refine t_calli (va_runV (As := [.int a1]) (rest := []) ⟨hx, hb, hml, hown, hts⟩ (t_X11_countOfStanding l dC dI tys κ B ws hw.2.2.2.2 a0 k_a0 a1 s.heap.size) (cwV 1 hts (gUV tw_1099 tw_1101 ts_2_15 tw_1 tw_1102) rfl rfl rfl (by decide +kernel) ⟨(Nat.le_of_ble_eq_true rfl), (Nat.le_of_ble_eq_true rfl)⟩) ⟨cPre.blind, t_recv hw (ci := 11) k_a0 rfl rfl, cPre.use hw.2.1 hw.1 hw.2.2.1 hE⟩ rfl rfl hl.1 rfl (lv_room (Nat.le_of_ble_eq_true rfl)) dX11_count_198 ⟨(Nat.le_of_ble_eq_true rfl), (Nat.le_of_ble_eq_true rfl)⟩) hw hA (fun _ _ h => h.1) (fun v198 w_5 H locs hp hw => ?_)
    obtain ⟨_, hm⟩ := hp
    have l_v198 := i32_lo v198
    have h_v198 := i32_hi v198
    have hM := hM.trans hm (by decide) (by decide)
    rw [hQ]
    refine W.widen (k := 0) (n := 0) (Nat.le_refl _) (Nat.le_refl _) ?_
    exact W.iret (v := v198) hx hb hr (fun t ht hW => ⟨⟨v198, w_5, rfl, ⟨hw.2.2.2.2, hM⟩, by rw [ht]; exact hw.2.1, va_K.moved hW.alike hw.1, hw.2.2.1⟩, hw.2.2.2.1.F ht⟩) hw.2.2.2.1.2.2 dX11_count_201
  rcases Classical.em (a1.toInt = 12) with c_1_12 | c_1_12
  · refine lv_tableIn (tgt := 196) hx hb dX11_count_1 (by omega) (by omega) (by rw [c_1_12]; rfl) (by decide) ?_
    refine lv_aload_n hx hb dX11_count_196 rfl (lv_at hl 0 rfl) ?_
    refine lv_iload_n hx hb dX11_count_197 rfl (lv_at hl 1 rfl) ?_
    refine t_calli (va_runV (As := [.int a1]) (rest := []) ⟨hx, hb, hml, hown, hts⟩ (t_X11_countOfStanding l dC dI tys κ B ws hw.2.2.2.2 a0 k_a0 a1 s.heap.size) (cwV 1 hts (gUV tw_1099 tw_1101 ts_2_15 tw_1 tw_1102) rfl rfl rfl (by decide +kernel) ⟨(Nat.le_of_ble_eq_true rfl), (Nat.le_of_ble_eq_true rfl)⟩) ⟨cPre.blind, t_recv hw (ci := 11) k_a0 rfl rfl, cPre.use hw.2.1 hw.1 hw.2.2.1 hE⟩ rfl rfl hl.1 rfl (lv_room (Nat.le_of_ble_eq_true rfl)) dX11_count_198 ⟨(Nat.le_of_ble_eq_true rfl), (Nat.le_of_ble_eq_true rfl)⟩) hw hA (fun _ _ h => h.1) (fun v198 w_6 H locs hp hw => ?_)
    obtain ⟨_, hm⟩ := hp
    have l_v198 := i32_lo v198
    have h_v198 := i32_hi v198
    have hM := hM.trans hm (by decide) (by decide)
    rw [hQ]
    refine W.widen (k := 0) (n := 0) (Nat.le_refl _) (Nat.le_refl _) ?_
    exact W.iret (v := v198) hx hb hr (fun t ht hW => ⟨⟨v198, w_6, rfl, ⟨hw.2.2.2.2, hM⟩, by rw [ht]; exact hw.2.1, va_K.moved hW.alike hw.1, hw.2.2.1⟩, hw.2.2.2.1.F ht⟩) hw.2.2.2.1.2.2 dX11_count_201
  rcases Classical.em (a1.toInt = 13) with c_1_13 | c_1_13
  · refine lv_tableIn (tgt := 196) hx hb dX11_count_1 (by omega) (by omega) (by rw [c_1_13]; rfl) (by decide) ?_
    refine lv_aload_n hx hb dX11_count_196 rfl (lv_at hl 0 rfl) ?_
    refine lv_iload_n hx hb dX11_count_197 rfl (lv_at hl 1 rfl) ?_
    refine t_calli (va_runV (As := [.int a1]) (rest := []) ⟨hx, hb, hml, hown, hts⟩ (t_X11_countOfStanding l dC dI tys κ B ws hw.2.2.2.2 a0 k_a0 a1 s.heap.size) (cwV 1 hts (gUV tw_1099 tw_1101 ts_2_15 tw_1 tw_1102) rfl rfl rfl (by decide +kernel) ⟨(Nat.le_of_ble_eq_true rfl), (Nat.le_of_ble_eq_true rfl)⟩) ⟨cPre.blind, t_recv hw (ci := 11) k_a0 rfl rfl, cPre.use hw.2.1 hw.1 hw.2.2.1 hE⟩ rfl rfl hl.1 rfl (lv_room (Nat.le_of_ble_eq_true rfl)) dX11_count_198 ⟨(Nat.le_of_ble_eq_true rfl), (Nat.le_of_ble_eq_true rfl)⟩) hw hA (fun _ _ h => h.1) (fun v198 w_7 H locs hp hw => ?_)
    obtain ⟨_, hm⟩ := hp
    have l_v198 := i32_lo v198
    have h_v198 := i32_hi v198
    have hM := hM.trans hm (by decide) (by decide)
    rw [hQ]
    refine W.widen (k := 0) (n := 0) (Nat.le_refl _) (Nat.le_refl _) ?_
    exact W.iret (v := v198) hx hb hr (fun t ht hW => ⟨⟨v198, w_7, rfl, ⟨hw.2.2.2.2, hM⟩, by rw [ht]; exact hw.2.1, va_K.moved hW.alike hw.1, hw.2.2.1⟩, hw.2.2.2.1.F ht⟩) hw.2.2.2.1.2.2 dX11_count_201
  rcases Classical.em (a1.toInt = 14) with c_1_14 | c_1_14
  · refine lv_tableIn (tgt := 196) hx hb dX11_count_1 (by omega) (by omega) (by rw [c_1_14]; rfl) (by decide) ?_
    refine lv_aload_n hx hb dX11_count_196 rfl (lv_at hl 0 rfl) ?_
    refine lv_iload_n hx hb dX11_count_197 rfl (lv_at hl 1 rfl) ?_
    refine t_calli (va_runV (As := [.int a1]) (rest := []) ⟨hx, hb, hml, hown, hts⟩ (t_X11_countOfStanding l dC dI tys κ B ws hw.2.2.2.2 a0 k_a0 a1 s.heap.size) (cwV 1 hts (gUV tw_1099 tw_1101 ts_2_15 tw_1 tw_1102) rfl rfl rfl (by decide +kernel) ⟨(Nat.le_of_ble_eq_true rfl), (Nat.le_of_ble_eq_true rfl)⟩) ⟨cPre.blind, t_recv hw (ci := 11) k_a0 rfl rfl, cPre.use hw.2.1 hw.1 hw.2.2.1 hE⟩ rfl rfl hl.1 rfl (lv_room (Nat.le_of_ble_eq_true rfl)) dX11_count_198 ⟨(Nat.le_of_ble_eq_true rfl), (Nat.le_of_ble_eq_true rfl)⟩) hw hA (fun _ _ h => h.1) (fun v198 w_8 H locs hp hw => ?_)
    obtain ⟨_, hm⟩ := hp
    have l_v198 := i32_lo v198
    have h_v198 := i32_hi v198
    have hM := hM.trans hm (by decide) (by decide)
    rw [hQ]
    refine W.widen (k := 0) (n := 0) (Nat.le_refl _) (Nat.le_refl _) ?_
    exact W.iret (v := v198) hx hb hr (fun t ht hW => ⟨⟨v198, w_8, rfl, ⟨hw.2.2.2.2, hM⟩, by rw [ht]; exact hw.2.1, va_K.moved hW.alike hw.1, hw.2.2.1⟩, hw.2.2.2.1.F ht⟩) hw.2.2.2.1.2.2 dX11_count_201
  rcases Classical.em (a1.toInt = 15) with c_1_15 | c_1_15
  · refine lv_tableIn (tgt := 196) hx hb dX11_count_1 (by omega) (by omega) (by rw [c_1_15]; rfl) (by decide) ?_
    refine lv_aload_n hx hb dX11_count_196 rfl (lv_at hl 0 rfl) ?_
    refine lv_iload_n hx hb dX11_count_197 rfl (lv_at hl 1 rfl) ?_
    refine t_calli (va_runV (As := [.int a1]) (rest := []) ⟨hx, hb, hml, hown, hts⟩ (t_X11_countOfStanding l dC dI tys κ B ws hw.2.2.2.2 a0 k_a0 a1 s.heap.size) (cwV 1 hts (gUV tw_1099 tw_1101 ts_2_15 tw_1 tw_1102) rfl rfl rfl (by decide +kernel) ⟨(Nat.le_of_ble_eq_true rfl), (Nat.le_of_ble_eq_true rfl)⟩) ⟨cPre.blind, t_recv hw (ci := 11) k_a0 rfl rfl, cPre.use hw.2.1 hw.1 hw.2.2.1 hE⟩ rfl rfl hl.1 rfl (lv_room (Nat.le_of_ble_eq_true rfl)) dX11_count_198 ⟨(Nat.le_of_ble_eq_true rfl), (Nat.le_of_ble_eq_true rfl)⟩) hw hA (fun _ _ h => h.1) (fun v198 w_9 H locs hp hw => ?_)
    obtain ⟨_, hm⟩ := hp
    have l_v198 := i32_lo v198
    have h_v198 := i32_hi v198
    have hM := hM.trans hm (by decide) (by decide)
    rw [hQ]
    refine W.widen (k := 0) (n := 0) (Nat.le_refl _) (Nat.le_refl _) ?_
    exact W.iret (v := v198) hx hb hr (fun t ht hW => ⟨⟨v198, w_9, rfl, ⟨hw.2.2.2.2, hM⟩, by rw [ht]; exact hw.2.1, va_K.moved hW.alike hw.1, hw.2.2.1⟩, hw.2.2.2.1.F ht⟩) hw.2.2.2.1.2.2 dX11_count_201
  rcases Classical.em (a1.toInt = 16) with c_1_16 | c_1_16
  · refine lv_tableIn (tgt := 164) hx hb dX11_count_1 (by omega) (by omega) (by rw [c_1_16]; rfl) (by decide) ?_
    refine lv_aload_n hx hb dX11_count_164 rfl (lv_at hl 0 rfl) ?_
    refine t_getr (k1 := 10) (ci := 11) (C := RX11) (T := TX11) (N := 12) hx hb hts iX11 hown hw k_a0 rfl rfl rfl 5 (by decide) (hts _ tw_428) (fun _ h9 => h9) dX11_count_165 rfl (fun v165 k_v165 f_a0_X11_5 => ?_)
    refine t_geti (ci := 10) (C := RX10) (T := TX10) (N := 8) hx hb hts iX10 hown hw k_v165 rfl rfl rfl 4 (by decide) (hts _ tw_292) (fun _ h9 => h9) dX11_count_168 rfl (fun v168 l_v168 h_v168 f_v165_X10_4 => ?_)
    have l_v168 : 0 ≤ v168.toInt := l_v168
    have h_v168 : v168.toInt ≤ 10 := h_v168
    rw [hQ]
    refine W.widen (k := 0) (n := 0) (Nat.le_refl _) (Nat.le_refl _) ?_
    exact W.iret (v := v168) hx hb hr (fun t ht hW => ⟨⟨v168, ws, rfl, ⟨hw.2.2.2.2, hM⟩, by rw [ht]; exact hw.2.1, va_K.moved hW.alike hw.1, hw.2.2.1⟩, hw.2.2.2.1.F ht⟩) hw.2.2.2.1.2.2 dX11_count_171
  rcases Classical.em (a1.toInt = 17) with c_1_17 | c_1_17
  · refine lv_tableIn (tgt := 172) hx hb dX11_count_1 (by omega) (by omega) (by rw [c_1_17]; rfl) (by decide) ?_
    refine lv_aload_n hx hb dX11_count_172 rfl (lv_at hl 0 rfl) ?_
    refine t_getr (k1 := 4) (ci := 11) (C := RX11) (T := TX11) (N := 12) hx hb hts iX11 hown hw k_a0 rfl rfl rfl 7 (by decide) (hts _ tw_430) (fun _ h9 => h9) dX11_count_173 rfl (fun v173 k_v173 f_a0_X11_7 => ?_)
    refine t_geti (ci := 4) (C := RX4) (T := TX4) (N := 3) hx hb hts iX4 hown hw k_v173 rfl rfl rfl 2 (by decide) (hts _ tw_330) (fun _ h9 => h9) dX11_count_176 rfl (fun v176 l_v176 h_v176 f_v173_X4_2 => ?_)
    have l_v176 : (-2147483648) ≤ v176.toInt := l_v176
    have h_v176 : v176.toInt ≤ 2147483647 := h_v176
    rw [hQ]
    refine W.widen (k := 0) (n := 0) (Nat.le_refl _) (Nat.le_refl _) ?_
    exact W.iret (v := v176) hx hb hr (fun t ht hW => ⟨⟨v176, ws, rfl, ⟨hw.2.2.2.2, hM⟩, by rw [ht]; exact hw.2.1, va_K.moved hW.alike hw.1, hw.2.2.1⟩, hw.2.2.2.1.F ht⟩) hw.2.2.2.1.2.2 dX11_count_179
  rcases Classical.em (a1.toInt = 18) with c_1_18 | c_1_18
  · refine lv_tableIn (tgt := 180) hx hb dX11_count_1 (by omega) (by omega) (by rw [c_1_18]; rfl) (by decide) ?_
    refine lv_aload_n hx hb dX11_count_180 rfl (lv_at hl 0 rfl) ?_
    refine t_getr (k1 := 10) (ci := 11) (C := RX11) (T := TX11) (N := 12) hx hb hts iX11 hown hw k_a0 rfl rfl rfl 5 (by decide) (hts _ tw_428) (fun _ h9 => h9) dX11_count_181 rfl (fun v181 k_v181 f_a0_X11_5 => ?_)
    refine t_geti (ci := 10) (C := RX10) (T := TX10) (N := 8) hx hb hts iX10 hown hw k_v181 rfl rfl rfl 3 (by decide) (hts _ tw_289) (fun _ h9 => h9) dX11_count_184 rfl (fun v184 l_v184 h_v184 f_v181_X10_3 => ?_)
    have l_v184 : (-2147483648) ≤ v184.toInt := l_v184
    have h_v184 : v184.toInt ≤ 2147483647 := h_v184
    rw [hQ]
    refine W.widen (k := 0) (n := 0) (Nat.le_refl _) (Nat.le_refl _) ?_
    exact W.iret (v := v184) hx hb hr (fun t ht hW => ⟨⟨v184, ws, rfl, ⟨hw.2.2.2.2, hM⟩, by rw [ht]; exact hw.2.1, va_K.moved hW.alike hw.1, hw.2.2.1⟩, hw.2.2.2.1.F ht⟩) hw.2.2.2.1.2.2 dX11_count_187
  rcases Classical.em (a1.toInt = 19) with c_1_19 | c_1_19
  · refine lv_tableIn (tgt := 188) hx hb dX11_count_1 (by omega) (by omega) (by rw [c_1_19]; rfl) (by decide) ?_
    refine lv_aload_n hx hb dX11_count_188 rfl (lv_at hl 0 rfl) ?_
    refine t_getr (k1 := 9) (ci := 11) (C := RX11) (T := TX11) (N := 12) hx hb hts iX11 hown hw k_a0 rfl rfl rfl 0 (by decide) (hts _ tw_423) (fun _ h9 => h9) dX11_count_189 rfl (fun v189 k_v189 f_a0_X11_0 => ?_)
    refine t_geti (ci := 9) (C := RX9) (T := TX9) (N := 4) hx hb hts iX9 hown hw k_v189 rfl rfl rfl 1 (by decide) (hts _ tw_38) (fun _ h9 => h9) dX11_count_192 rfl (fun v192 l_v192 h_v192 f_v189_X9_1 => ?_)
    have l_v192 : 0 ≤ v192.toInt := l_v192
    have h_v192 : v192.toInt ≤ 400 := h_v192
    rw [hQ]
    refine W.widen (k := 0) (n := 0) (Nat.le_refl _) (Nat.le_refl _) ?_
    exact W.iret (v := v192) hx hb hr (fun t ht hW => ⟨⟨v192, ws, rfl, ⟨hw.2.2.2.2, hM⟩, by rw [ht]; exact hw.2.1, va_K.moved hW.alike hw.1, hw.2.2.1⟩, hw.2.2.2.1.F ht⟩) hw.2.2.2.1.2.2 dX11_count_195
  · refine lv_tableOut (tgt := 196) hx hb dX11_count_1 (by omega) (by decide) ?_
    refine lv_aload_n hx hb dX11_count_196 rfl (lv_at hl 0 rfl) ?_
    refine lv_iload_n hx hb dX11_count_197 rfl (lv_at hl 1 rfl) ?_
    refine t_calli (va_runV (As := [.int a1]) (rest := []) ⟨hx, hb, hml, hown, hts⟩ (t_X11_countOfStanding l dC dI tys κ B ws hw.2.2.2.2 a0 k_a0 a1 s.heap.size) (cwV 1 hts (gUV tw_1099 tw_1101 ts_2_15 tw_1 tw_1102) rfl rfl rfl (by decide +kernel) ⟨(Nat.le_of_ble_eq_true rfl), (Nat.le_of_ble_eq_true rfl)⟩) ⟨cPre.blind, t_recv hw (ci := 11) k_a0 rfl rfl, cPre.use hw.2.1 hw.1 hw.2.2.1 hE⟩ rfl rfl hl.1 rfl (lv_room (Nat.le_of_ble_eq_true rfl)) dX11_count_198 ⟨(Nat.le_of_ble_eq_true rfl), (Nat.le_of_ble_eq_true rfl)⟩) hw hA (fun _ _ h => h.1) (fun v198 w_10 H locs hp hw => ?_)
    obtain ⟨_, hm⟩ := hp
    have l_v198 := i32_lo v198
    have h_v198 := i32_hi v198
    have hM := hM.trans hm (by decide) (by decide)
    rw [hQ]
    refine W.widen (k := 0) (n := 0) (Nat.le_refl _) (Nat.le_refl _) ?_
    exact W.iret (v := v198) hx hb hr (fun t ht hW => ⟨⟨v198, w_10, rfl, ⟨hw.2.2.2.2, hM⟩, by rw [ht]; exact hw.2.1, va_K.moved hW.alike hw.1, hw.2.2.1⟩, hw.2.2.2.1.F ht⟩) hw.2.2.2.1.2.2 dX11_count_201
set_option maxHeartbeats 4000000 in
set_option maxRecDepth 100000 in
theorem t_X11_day (l : Launch) (dC : Nat → ClassId) (dI : Nat → Nat → Nat) (tys : List (ClassId × FieldType)) (κ : tK) (B : Nat) (ws : va_W) (hT : Ty κ tys B ws) (a0 : Nat) (k_a0 : κ a0 = some 11) (sz : Nat) : Met l yX11_day (ws_u yX11_day cX11_day 1 (some .int)) ({ frames := 5, cells := 0, slots := 0, locals := 122 }) (va_Pc [.ref a0] (cPre (dC, dI) tys ws sz)) (va_Qi (fun (r : Int32) (w : va_W) => (-2) ≤ r.toInt ∧ r.toInt ≤ 5 ∧ Ty κ tys B w ∧ Sm [(4, 1), (4, 2), (5, 0), (5, 1), (5, 5), (8, 0), (8, 1), (8, 2), (8, 3), (8, 4), (8, 5), (8, 6)] [33, 34, 35, 36, 42, 43, 44, 45, 46, 47, 48] κ ws w) (fun w t => cPost (dC, dI) tys w (va_A ws sz) t) (va_A ws sz)) 0 0 (va_A ws sz) := by
  refine Met.ofW (cc := cX11_day) (maxL := 1) (ret := (some .int)) (by decide) rfl ?_
  intro p e s m args below meth c s₁ B0 hml hv
  obtain ⟨rfl, hsz, hP, hK, hD0, hE⟩ := hv
  have hx := B0.exec
  have hb := B0.bytes
  have hr := B0.returns
  have hts0 := atoms_spec (ws := ws_u yX11_day cX11_day 1 (some .int)) B0.pre
  have hts : ∀ w ∈ gT, w.before _ s = true := fun w h => hts0 w (List.mem_cons_of_mem _ h)
  have hown : s.vm.findClass RX11 = some m.cls := findClass_of_methodNamed B0.named
  have hlocks := B0.notSynchronized
  subst hsz
  have hD := hD0.self (sz := s.heap.size)
  generalize hAe : va_A ws s.heap.size = A at hD ⊢
  have hA : ∀ q : Nat, s.heap.size ≤ q → A q := fun q h => by rw [← hAe]; exact Or.inr h
  have hw : tW (dC, dI) tys κ B A s ws s.heap [] := ⟨hK, hP, hD, va_S.rf, hT⟩
  have hM : Sm [(4, 1), (4, 2), (5, 0), (5, 1), (5, 5), (8, 0), (8, 1), (8, 2), (8, 3), (8, 4), (8, 5), (8, 6)] [33, 34, 35, 36, 42, 43, 44, 45, 46, 47, 48] κ ws ws := Sm.rf
  clear hP hK hD hD0 hts0
  have hl := lv_entry ([.ref a0]) (n := 1) (Nat.le_of_ble_eq_true rfl)
  rw [lg_entry_eq]
  generalize (lg_sl ([.ref a0]) ++ List.replicate (1 - (lg_sl ([.ref a0])).length) Slot.unset).toArray = ls at hl ⊢
  have hl : lv_has ls 1 [(0, .ref a0)] := hl
  refine t_start (fun QQ hQ => ?_)
  refine lv_aload_n hx hb dX11_day_0 rfl (lv_at hl 0 rfl) ?_
  refine t_getr (k1 := 10) (ci := 11) (C := RX11) (T := TX11) (N := 12) hx hb hts iX11 hown hw k_a0 rfl rfl rfl 5 (by decide) (hts _ tw_428) (fun _ h9 => h9) dX11_day_1 rfl (fun v1 k_v1 f_a0_X11_5 => ?_)
  refine t_getr (k1 := 0) (ci := 10) (C := RX10) (T := TX10) (N := 8) hx hb hts iX10 hown hw k_v1 rfl rfl rfl 0 (by decide) (hts _ tw_282) (fun _ h9 => h9) dX11_day_4 rfl (fun v4 k_v4 f_v1_X10_0 => ?_)
  refine t_geti (ci := 0) (C := RX0) (T := TX0) (N := 16) hx hb hts iX0 hown hw k_v4 rfl rfl rfl 0 (by decide) (hts _ tw_69) (fun _ h9 => h9) dX11_day_7 rfl (fun v7 l_v7 h_v7 f_v4_X0_0 => ?_)
  have l_v7 : 0 ≤ v7.toInt := l_v7
  have h_v7 : v7.toInt ≤ 1 := h_v7
  refine lv_if_eq (tgt := 29) hx hb dX11_day_10 (by decide) (fun c_10 => ?_) (fun c_10 => ?_)
  · simp only [fa_lt, fa_le, fa_eq, li_0] at c_10
    refine lv_bipush (v := (-2)) hx hb dX11_day_29 (by decide) ?_
    rw [hQ]
    refine W.widen (k := 0) (n := 0) (Nat.le_refl _) (Nat.le_refl _) ?_
    exact W.iret (v := (-2)) hx hb hr (fun t ht hW => ⟨⟨(-2), ws, rfl, ⟨(by decide), (by decide), hw.2.2.2.2, hM⟩, by rw [ht]; exact hw.2.1, va_K.moved hW.alike hw.1, hw.2.2.1⟩, hw.2.2.2.1.F ht⟩) hw.2.2.2.1.2.2 dX11_day_31
  · simp only [fa_lt, fa_le, fa_eq, li_0] at c_10
    refine lv_aload_n hx hb dX11_day_13 rfl (lv_at hl 0 rfl) ?_
    refine t_getk (ci := 11) (C := RX11) (T := TX11) (N := 12) hx hb hts iX11 hown hw rfl 5 (by decide) (hts _ tw_428) (fun _ h9 => h9) dX11_day_14 f_a0_X11_5 ?_
    refine t_getr (k1 := 8) (ci := 10) (C := RX10) (T := TX10) (N := 8) hx hb hts iX10 hown hw k_v1 rfl rfl rfl 1 (by decide) (hts _ tw_285) (fun _ h9 => h9) dX11_day_17 rfl (fun v17 k_v17 f_v1_X10_1 => ?_)
    refine t_geti (ci := 8) (C := RX8) (T := TX8) (N := 13) hx hb hts iX8 hown hw k_v17 rfl rfl rfl 0 (by decide) (hts _ tw_222) (fun _ h9 => h9) dX11_day_20 rfl (fun v20 l_v20 h_v20 f_v17_X8_0 => ?_)
    have l_v20 : (-2147483648) ≤ v20.toInt := l_v20
    have h_v20 : v20.toInt ≤ 2147483647 := h_v20
    refine lv_sipush (v := 999) hx hb dX11_day_23 (by decide) ?_
    refine lv_icmp_lt (tgt := 32) hx hb dX11_day_26 (by decide) (fun c_26 => ?_) (fun c_26 => ?_)
    · simp only [fa_lt, fa_le, fa_eq, li_999] at c_26
      refine lv_aload_n hx hb dX11_day_32 rfl (lv_at hl 0 rfl) ?_
      refine t_getr (k1 := 4) (ci := 11) (C := RX11) (T := TX11) (N := 12) hx hb hts iX11 hown hw k_a0 rfl rfl rfl 7 (by decide) (hts _ tw_430) (fun _ h9 => h9) dX11_day_33 rfl (fun v33 k_v33 f_a0_X11_7 => ?_)
      refine lv_aload_n hx hb dX11_day_36 rfl (lv_at hl 0 rfl) ?_
      refine t_getk (ci := 11) (C := RX11) (T := TX11) (N := 12) hx hb hts iX11 hown hw rfl 5 (by decide) (hts _ tw_428) (fun _ h9 => h9) dX11_day_37 f_a0_X11_5 ?_
      refine t_getk (ci := 10) (C := RX10) (T := TX10) (N := 8) hx hb hts iX10 hown hw rfl 1 (by decide) (hts _ tw_285) (fun _ h9 => h9) dX11_day_40 f_v1_X10_1 ?_
      obtain ⟨u_v43q0, q_v43q0, f_v17_X8_1⟩ := t_peek (k := 1) hw.2.2.2.2 k_v17 rfl (by decide)
      obtain ⟨v43q0, rfl, l_v43q0, h_v43q0⟩ := q_v43q0.geti (lo := (-1)) (hi := 5) rfl
      refine t_callv (va_runV (As := [.ref v17]) (rest := []) ⟨hx, hb, hml, hown, hts⟩ (t_X4_keep l dC dI tys κ B ws hw.2.2.2.2 v33 k_v33 v17 k_v17 v43q0 (by omega) (by omega) f_v17_X8_1 s.heap.size) (cwV 1 hts (gUV tw_747 tw_748 tw_749 tw_9 tw_750) rfl rfl rfl (by decide +kernel) ⟨(Nat.le_of_ble_eq_true rfl), (Nat.le_of_ble_eq_true rfl)⟩) ⟨cPre.blind, t_recv hw (ci := 4) k_v33 rfl rfl, cPre.use hw.2.1 hw.1 hw.2.2.1 hE⟩ rfl rfl hl.1 rfl (lv_room (Nat.le_of_ble_eq_true rfl)) dX11_day_43 ⟨(Nat.le_of_ble_eq_true rfl), (Nat.le_of_ble_eq_true rfl)⟩) hw hA (fun _ h => h.1) (fun w_1 H locs hp hw => ?_)
      obtain ⟨_, hm, f_v17_X8_1⟩ := hp
      have hM := hM.trans hm (by decide) (by decide)
      have f_a0_X11_5 := hm.1 _ _ _ _ f_a0_X11_5 (by decide)
      have f_v1_X10_0 := hm.1 _ _ _ _ f_v1_X10_0 (by decide)
      have f_v4_X0_0 := hm.1 _ _ _ _ f_v4_X0_0 (by decide)
      have f_v1_X10_1 := hm.1 _ _ _ _ f_v1_X10_1 (by decide)
      have f_a0_X11_7 := hm.1 _ _ _ _ f_a0_X11_7 (by decide)
      refine lv_aload_n hx hb dX11_day_46 rfl (lv_at hl 0 rfl) ?_
      refine t_getr (k1 := 3) (ci := 11) (C := RX11) (T := TX11) (N := 12) hx hb hts iX11 hown hw k_a0 rfl rfl rfl 9 (by decide) (hts _ tw_432) (fun _ h9 => h9) dX11_day_47 rfl (fun v47 k_v47 f_a0_X11_9 => ?_)
      refine lv_aload_n hx hb dX11_day_50 rfl (lv_at hl 0 rfl) ?_
      refine t_getk (ci := 11) (C := RX11) (T := TX11) (N := 12) hx hb hts iX11 hown hw rfl 5 (by decide) (hts _ tw_428) (fun _ h9 => h9) dX11_day_51 f_a0_X11_5 ?_
      refine t_getk (ci := 10) (C := RX10) (T := TX10) (N := 8) hx hb hts iX10 hown hw rfl 0 (by decide) (hts _ tw_282) (fun _ h9 => h9) dX11_day_54 f_v1_X10_0 ?_
      refine lv_aload_n hx hb dX11_day_57 rfl (lv_at hl 0 rfl) ?_
      refine t_getk (ci := 11) (C := RX11) (T := TX11) (N := 12) hx hb hts iX11 hown hw rfl 5 (by decide) (hts _ tw_428) (fun _ h9 => h9) dX11_day_58 f_a0_X11_5 ?_
      refine t_getk (ci := 10) (C := RX10) (T := TX10) (N := 8) hx hb hts iX10 hown hw rfl 1 (by decide) (hts _ tw_285) (fun _ h9 => h9) dX11_day_61 f_v1_X10_1 ?_
      refine lv_aload_n hx hb dX11_day_64 rfl (lv_at hl 0 rfl) ?_
      refine t_callq (va_runV (As := []) (rest := [.ref v17, .ref v4, .ref v47]) ⟨hx, hb, hml, hown, hts⟩ (t_X11_ruleInForce l dC dI tys κ B w_1 hw.2.2.2.2 a0 k_a0 H.size) (cwV 0 hts (gUV tw_756 tw_758 ts_1_3 tw_1 tw_759) rfl rfl rfl (by decide +kernel) ⟨(Nat.le_of_ble_eq_true rfl), (Nat.le_of_ble_eq_true rfl)⟩) ⟨cPre.blind, t_recv hw (ci := 11) k_a0 rfl rfl, cPre.use hw.2.1 hw.1 hw.2.2.1 hE⟩ rfl rfl hl.1 rfl (lv_room (Nat.le_of_ble_eq_true rfl)) dX11_day_65 ⟨(Nat.le_of_ble_eq_true rfl), (Nat.le_of_ble_eq_true rfl)⟩) hw hA (fun _ _ h => h.2.1) (fun v65 w_2 H locs hp hw => ?_)
      obtain ⟨k_v65, _, hm⟩ := hp
      have hM := hM.trans hm (by decide) (by decide)
      have f_a0_X11_5 := hm.1 _ _ _ _ f_a0_X11_5 (by decide)
      have f_v1_X10_0 := hm.1 _ _ _ _ f_v1_X10_0 (by decide)
      have f_v4_X0_0 := hm.1 _ _ _ _ f_v4_X0_0 (by decide)
      have f_v1_X10_1 := hm.1 _ _ _ _ f_v1_X10_1 (by decide)
      have f_a0_X11_7 := hm.1 _ _ _ _ f_a0_X11_7 (by decide)
      have f_v17_X8_1 := hm.1 _ _ _ _ f_v17_X8_1 (by decide)
      have f_a0_X11_9 := hm.1 _ _ _ _ f_a0_X11_9 (by decide)
      refine t_calli (va_runV (As := [.ref v4, .ref v17, va_rf v65]) (rest := []) ⟨hx, hb, hml, hown, hts⟩ (t_X3_pass l dC dI tys κ B w_2 hw.2.2.2.2 v47 k_v47 v4 k_v4 v17 k_v17 v65 k_v65 H.size) (cwV 3 hts (gUV tw_760 tw_761 tw_762 tw_11 tw_763) rfl rfl rfl (by decide +kernel) ⟨(Nat.le_of_ble_eq_true rfl), (Nat.le_of_ble_eq_true rfl)⟩) ⟨cPre.blind, t_recv hw (ci := 3) k_v47 rfl rfl, cPre.use hw.2.1 hw.1 hw.2.2.1 hE⟩ rfl rfl hl.1 rfl (lv_room (Nat.le_of_ble_eq_true rfl)) dX11_day_68 ⟨(Nat.le_of_ble_eq_true rfl), (Nat.le_of_ble_eq_true rfl)⟩) hw hA (fun _ _ h => h.2.2.1) (fun v68 w_3 H locs hp hw => ?_)
      obtain ⟨l_v68, h_v68, _, hm⟩ := hp
      have hM := hM.trans hm (by decide) (by decide)
      have f_a0_X11_5 := hm.1 _ _ _ _ f_a0_X11_5 (by decide)
      have f_v1_X10_0 := hm.1 _ _ _ _ f_v1_X10_0 (by decide)
      have f_v4_X0_0 := hm.1 _ _ _ _ f_v4_X0_0 (by decide)
      have f_v1_X10_1 := hm.1 _ _ _ _ f_v1_X10_1 (by decide)
      have f_a0_X11_7 := hm.1 _ _ _ _ f_a0_X11_7 (by decide)
      have f_a0_X11_9 := hm.1 _ _ _ _ f_a0_X11_9 (by decide)
      refine lv_pop hx hb dX11_day_71 rfl ?_
      refine lv_aload_n hx hb dX11_day_72 rfl (lv_at hl 0 rfl) ?_
      refine t_getk (ci := 11) (C := RX11) (T := TX11) (N := 12) hx hb hts iX11 hown hw rfl 5 (by decide) (hts _ tw_428) (fun _ h9 => h9) dX11_day_73 f_a0_X11_5 ?_
      refine t_getk (ci := 10) (C := RX10) (T := TX10) (N := 8) hx hb hts iX10 hown hw rfl 1 (by decide) (hts _ tw_285) (fun _ h9 => h9) dX11_day_76 f_v1_X10_1 ?_
      refine t_geti (ci := 8) (C := RX8) (T := TX8) (N := 13) hx hb hts iX8 hown hw k_v17 rfl rfl rfl 1 (by decide) (hts _ tw_226) (fun _ h9 => h9) dX11_day_79 rfl (fun v79 l_v79 h_v79 f_v17_X8_1 => ?_)
      have l_v79 : (-1) ≤ v79.toInt := l_v79
      have h_v79 : v79.toInt ≤ 5 := h_v79
      rw [hQ]
      refine W.widen (k := 0) (n := 0) (Nat.le_refl _) (Nat.le_refl _) ?_
      exact W.iret (v := v79) hx hb hr (fun t ht hW => ⟨⟨v79, w_3, rfl, ⟨(by omega), (by omega), hw.2.2.2.2, hM⟩, by rw [ht]; exact hw.2.1, va_K.moved hW.alike hw.1, hw.2.2.1⟩, hw.2.2.2.1.F ht⟩) hw.2.2.2.1.2.2 dX11_day_82
    · simp only [fa_lt, fa_le, fa_eq, li_999] at c_26
      refine lv_bipush (v := (-2)) hx hb dX11_day_29 (by decide) ?_
      rw [hQ]
      refine W.widen (k := 0) (n := 0) (Nat.le_refl _) (Nat.le_refl _) ?_
      exact W.iret (v := (-2)) hx hb hr (fun t ht hW => ⟨⟨(-2), ws, rfl, ⟨(by decide), (by decide), hw.2.2.2.2, hM⟩, by rw [ht]; exact hw.2.1, va_K.moved hW.alike hw.1, hw.2.2.1⟩, hw.2.2.2.1.F ht⟩) hw.2.2.2.1.2.2 dX11_day_31
set_option maxHeartbeats 4000000 in
set_option maxRecDepth 100000 in
theorem t_X11_end (l : Launch) (dC : Nat → ClassId) (dI : Nat → Nat → Nat) (tys : List (ClassId × FieldType)) (κ : tK) (B : Nat) (ws : va_W) (hT : Ty κ tys B ws) (a0 : Nat) (k_a0 : κ a0 = some 11) (a1 : Int32) (sz : Nat) : Met l yX11_end (ws_u yX11_end cX11_end 2 (some .int)) ({ frames := 0, cells := 0, slots := 0, locals := 0 }) (va_Pc [.ref a0, .int a1] (cPre (dC, dI) tys ws sz)) (va_Qi (fun (r : Int32) (w : va_W) => (-1) ≤ r.toInt ∧ r.toInt ≤ 400 ∧ Ty κ tys B w ∧ Sm [(9, 1)] [] κ ws w) (fun w t => cPost (dC, dI) tys w (va_A ws sz) t) (va_A ws sz)) 0 0 (va_A ws sz) := by
  refine Met.ofW (cc := cX11_end) (maxL := 2) (ret := (some .int)) (by decide) rfl ?_
  intro p e s m args below meth c s₁ B0 hml hv
  obtain ⟨rfl, hsz, hP, hK, hD0, hE⟩ := hv
  have hx := B0.exec
  have hb := B0.bytes
  have hr := B0.returns
  have hts0 := atoms_spec (ws := ws_u yX11_end cX11_end 2 (some .int)) B0.pre
  have hts : ∀ w ∈ gT, w.before _ s = true := fun w h => hts0 w (List.mem_cons_of_mem _ h)
  have hown : s.vm.findClass RX11 = some m.cls := findClass_of_methodNamed B0.named
  have hlocks := B0.notSynchronized
  subst hsz
  have hD := hD0.self (sz := s.heap.size)
  generalize hAe : va_A ws s.heap.size = A at hD ⊢
  have hA : ∀ q : Nat, s.heap.size ≤ q → A q := fun q h => by rw [← hAe]; exact Or.inr h
  have hw : tW (dC, dI) tys κ B A s ws s.heap [] := ⟨hK, hP, hD, va_S.rf, hT⟩
  have hM : Sm [(9, 1)] [] κ ws ws := Sm.rf
  clear hP hK hD hD0 hts0
  have l_a1 := i32_lo a1
  have h_a1 := i32_hi a1
  have hl := lv_entry ([.ref a0, .int a1]) (n := 2) (Nat.le_of_ble_eq_true rfl)
  rw [lg_entry_eq]
  generalize (lg_sl ([.ref a0, .int a1]) ++ List.replicate (2 - (lg_sl ([.ref a0, .int a1])).length) Slot.unset).toArray = ls at hl ⊢
  have hl : lv_has ls 2 [(0, .ref a0), (1, .int a1)] := hl
  refine t_start (fun QQ hQ => ?_)
  refine lv_iload_n hx hb dX11_end_0 rfl (lv_at hl 1 rfl) ?_
  refine lv_if_lt (tgt := 15) hx hb dX11_end_1 (by decide) (fun c_1 => ?_) (fun c_1 => ?_)
  · simp only [fa_lt, fa_le, fa_eq, li_0] at c_1
    refine lv_iconst (v := (-1)) hx hb dX11_end_15 (by decide) ?_
    rw [hQ]
    refine W.widen (k := 0) (n := 0) (Nat.le_refl _) (Nat.le_refl _) ?_
    exact W.iret (v := (-1)) hx hb hr (fun t ht hW => ⟨⟨(-1), ws, rfl, ⟨(by decide), (by decide), hw.2.2.2.2, hM⟩, by rw [ht]; exact hw.2.1, va_K.moved hW.alike hw.1, hw.2.2.1⟩, hw.2.2.2.1.F ht⟩) hw.2.2.2.1.2.2 dX11_end_16
  · simp only [fa_lt, fa_le, fa_eq, li_0] at c_1
    refine lv_iload_n hx hb dX11_end_4 rfl (lv_at hl 1 rfl) ?_
    refine lv_aload_n hx hb dX11_end_5 rfl (lv_at hl 0 rfl) ?_
    refine t_getr (k1 := 9) (ci := 11) (C := RX11) (T := TX11) (N := 12) hx hb hts iX11 hown hw k_a0 rfl rfl rfl 0 (by decide) (hts _ tw_423) (fun _ h9 => h9) dX11_end_6 rfl (fun v6 k_v6 f_a0_X11_0 => ?_)
    refine t_geti (ci := 9) (C := RX9) (T := TX9) (N := 4) hx hb hts iX9 hown hw k_v6 rfl rfl rfl 1 (by decide) (hts _ tw_38) (fun _ h9 => h9) dX11_end_9 rfl (fun v9 l_v9 h_v9 f_v6_X9_1 => ?_)
    have l_v9 : 0 ≤ v9.toInt := l_v9
    have h_v9 : v9.toInt ≤ 400 := h_v9
    refine lv_icmp_le (tgt := 17) hx hb dX11_end_12 (by decide) (fun c_12 => ?_) (fun c_12 => ?_)
    · simp only [fa_lt, fa_le, fa_eq] at c_12
      refine lv_aload_n hx hb dX11_end_17 rfl (lv_at hl 0 rfl) ?_
      refine t_getk (ci := 11) (C := RX11) (T := TX11) (N := 12) hx hb hts iX11 hown hw rfl 0 (by decide) (hts _ tw_423) (fun _ h9 => h9) dX11_end_18 f_a0_X11_0 ?_
      refine lv_iload_n hx hb dX11_end_21 rfl (lv_at hl 1 rfl) ?_
      refine t_put (ci := 9) (C := RX9) (T := TX9) (N := 4) (v := .int a1) hx hb hts iX9 tyX9 tyX9_ok nmX9 hown hw k_v6 rfl rfl rfl 1 (by decide) (hts _ tw_38) (fun _ h9 => h9) rfl (tyX9_ok 1 (by decide)) rfl rfl (okV.int rfl (by omega) (by omega)) dX11_end_22 (fun w_1 H locs hw u => ?_)
      have hM := hM.up1 u (by decide)
      have f_a0_X11_0 := u.1 _ _ _ _ f_a0_X11_0 (Or.inr (Or.inl (by decide)))
      have f_v6_X9_1 := u.2.2
      refine lv_iload_n hx hb dX11_end_25 rfl (lv_at hl 1 rfl) ?_
      rw [hQ]
      refine W.widen (k := 0) (n := 0) (Nat.le_refl _) (Nat.le_refl _) ?_
      exact W.iret (v := a1) hx hb hr (fun t ht hW => ⟨⟨a1, w_1, rfl, ⟨(by omega), (by omega), hw.2.2.2.2, hM⟩, by rw [ht]; exact hw.2.1, va_K.moved hW.alike hw.1, hw.2.2.1⟩, hw.2.2.2.1.F ht⟩) hw.2.2.2.1.2.2 dX11_end_26
    · simp only [fa_lt, fa_le, fa_eq] at c_12
      refine lv_iconst (v := (-1)) hx hb dX11_end_15 (by decide) ?_
      rw [hQ]
      refine W.widen (k := 0) (n := 0) (Nat.le_refl _) (Nat.le_refl _) ?_
      exact W.iret (v := (-1)) hx hb hr (fun t ht hW => ⟨⟨(-1), ws, rfl, ⟨(by decide), (by decide), hw.2.2.2.2, hM⟩, by rw [ht]; exact hw.2.1, va_K.moved hW.alike hw.1, hw.2.2.1⟩, hw.2.2.2.1.F ht⟩) hw.2.2.2.1.2.2 dX11_end_16
set_option maxHeartbeats 4000000 in
set_option maxRecDepth 100000 in
theorem t_X11_isAlive (l : Launch) (dC : Nat → ClassId) (dI : Nat → Nat → Nat) (tys : List (ClassId × FieldType)) (κ : tK) (B : Nat) (ws : va_W) (hT : Ty κ tys B ws) (a0 : Nat) (k_a0 : κ a0 = some 11) (a1 : Int32) (sz : Nat) : Met l yX11_isAlive (ws_u yX11_isAlive cX11_isAlive 2 (some .boolean)) ({ frames := 1, cells := 0, slots := 0, locals := 21 }) (va_Pc [.ref a0, .int a1] (cPre (dC, dI) tys ws sz)) (va_Qi (fun (r : Int32) (w : va_W) => 0 ≤ r.toInt ∧ r.toInt ≤ 1 ∧ Ty κ tys B w ∧ Sm [] [] κ ws w ∧ (r.toInt = 0 ∨ 0 ≤ a1.toInt ∧ a1.toInt ≤ 3)) (fun w t => cPost (dC, dI) tys w (va_A ws sz) t) (va_A ws sz)) 0 0 (va_A ws sz) := by
  refine Met.ofW (cc := cX11_isAlive) (maxL := 2) (ret := (some .boolean)) (by decide) rfl ?_
  intro p e s m args below meth c s₁ B0 hml hv
  obtain ⟨rfl, hsz, hP, hK, hD0, hE⟩ := hv
  have hx := B0.exec
  have hb := B0.bytes
  have hr := B0.returns
  have hts0 := atoms_spec (ws := ws_u yX11_isAlive cX11_isAlive 2 (some .boolean)) B0.pre
  have hts : ∀ w ∈ gT, w.before _ s = true := fun w h => hts0 w (List.mem_cons_of_mem _ h)
  have hown : s.vm.findClass RX11 = some m.cls := findClass_of_methodNamed B0.named
  have hlocks := B0.notSynchronized
  subst hsz
  have hD := hD0.self (sz := s.heap.size)
  generalize hAe : va_A ws s.heap.size = A at hD ⊢
  have hA : ∀ q : Nat, s.heap.size ≤ q → A q := fun q h => by rw [← hAe]; exact Or.inr h
  have hw : tW (dC, dI) tys κ B A s ws s.heap [] := ⟨hK, hP, hD, va_S.rf, hT⟩
  have hM : Sm [] [] κ ws ws := Sm.rf
  clear hP hK hD hD0 hts0
  have l_a1 := i32_lo a1
  have h_a1 := i32_hi a1
  have hl := lv_entry ([.ref a0, .int a1]) (n := 2) (Nat.le_of_ble_eq_true rfl)
  rw [lg_entry_eq]
  generalize (lg_sl ([.ref a0, .int a1]) ++ List.replicate (2 - (lg_sl ([.ref a0, .int a1])).length) Slot.unset).toArray = ls at hl ⊢
  have hl : lv_has ls 2 [(0, .ref a0), (1, .int a1)] := hl
  refine t_start (fun QQ hQ => ?_)
  refine lv_aload_n hx hb dX11_isAlive_0 rfl (lv_at hl 0 rfl) ?_
  refine lv_iload_n hx hb dX11_isAlive_1 rfl (lv_at hl 1 rfl) ?_
  refine t_calli (va_runV (As := [.int a1]) (rest := []) ⟨hx, hb, hml, hown, hts⟩ (t_X11_isCanon l dC dI tys κ B ws hw.2.2.2.2 a0 k_a0 a1 s.heap.size) (cwV 1 hts (gUV tw_722 tw_724 ts_1_0 tw_1 tw_725) rfl rfl rfl (by decide +kernel) ⟨(Nat.le_of_ble_eq_true rfl), (Nat.le_of_ble_eq_true rfl)⟩) ⟨cPre.blind, t_recv hw (ci := 11) k_a0 rfl rfl, cPre.use hw.2.1 hw.1 hw.2.2.1 hE⟩ rfl rfl hl.1 rfl (lv_room (Nat.le_of_ble_eq_true rfl)) dX11_isAlive_2 ⟨(Nat.le_of_ble_eq_true rfl), (Nat.le_of_ble_eq_true rfl)⟩) hw hA (fun _ _ h => h.2.2.1) (fun v2 w_1 H locs hp hw => ?_)
  obtain ⟨l_v2, h_v2, _, hm, x_v2_0⟩ := hp
  have hM := hM.trans hm (by decide) (by decide)
  refine lv_if_eq (tgt := 29) hx hb dX11_isAlive_5 (by decide) (fun c_5 => ?_) (fun c_5 => ?_)
  · simp only [fa_lt, fa_le, fa_eq, li_0] at c_5
    refine lv_iconst (v := 0) hx hb dX11_isAlive_29 (by decide) ?_
    rw [hQ]
    refine W.widen (k := 0) (n := 0) (Nat.le_refl _) (Nat.le_refl _) ?_
    exact W.zret (v := 0) hx hb hr rfl (fun t ht hW => ⟨⟨0, w_1, rfl, ⟨(by decide), (by decide), hw.2.2.2.2, hM, (by have := li_0; omega)⟩, by rw [ht]; exact hw.2.1, va_K.moved hW.alike hw.1, hw.2.2.1⟩, hw.2.2.2.1.F ht⟩) hw.2.2.2.1.2.2 dX11_isAlive_30
  · simp only [fa_lt, fa_le, fa_eq, li_0] at c_5
    refine lv_aload_n hx hb dX11_isAlive_8 rfl (lv_at hl 0 rfl) ?_
    refine t_getr (k1 := 10) (ci := 11) (C := RX11) (T := TX11) (N := 12) hx hb hts iX11 hown hw k_a0 rfl rfl rfl 5 (by decide) (hts _ tw_428) (fun _ h9 => h9) dX11_isAlive_9 rfl (fun v9 k_v9 f_a0_X11_5 => ?_)
    refine t_getr (k1 := 8) (ci := 10) (C := RX10) (T := TX10) (N := 8) hx hb hts iX10 hown hw k_v9 rfl rfl rfl 1 (by decide) (hts _ tw_285) (fun _ h9 => h9) dX11_isAlive_12 rfl (fun v12 k_v12 f_v9_X10_1 => ?_)
    refine t_getr (k1 := 46) (ci := 8) (C := RX8) (T := TX8) (N := 13) hx hb hts iX8 hown hw k_v12 rfl rfl rfl 10 (by decide) (hts _ tw_249) (fun _ h9 => h9) dX11_isAlive_15 rfl (fun v15 k_v15 f_v12_X8_10 => ?_)
    refine lv_iload_n hx hb dX11_isAlive_18 rfl (lv_at hl 1 rfl) ?_
    refine t_iald hx hb hw k_v15 rfl rfl (by omega) (show a1.toInt < 4 by omega) dX11_isAlive_19 (fun v19 r_v19 s_v19 q_v19 => ?_)
    have l_v19 := i32_lo v19
    have h_v19 := i32_hi v19
    refine lv_bipush (v := 100) hx hb dX11_isAlive_20 (by decide) ?_
    refine lv_icmp_ge (tgt := 29) hx hb dX11_isAlive_22 (by decide) (fun c_22 => ?_) (fun c_22 => ?_)
    · simp only [fa_lt, fa_le, fa_eq, li_100] at c_22
      refine lv_iconst (v := 0) hx hb dX11_isAlive_29 (by decide) ?_
      rw [hQ]
      refine W.widen (k := 0) (n := 0) (Nat.le_refl _) (Nat.le_refl _) ?_
      exact W.zret (v := 0) hx hb hr rfl (fun t ht hW => ⟨⟨0, w_1, rfl, ⟨(by decide), (by decide), hw.2.2.2.2, hM, (by have := li_0; omega)⟩, by rw [ht]; exact hw.2.1, va_K.moved hW.alike hw.1, hw.2.2.1⟩, hw.2.2.2.1.F ht⟩) hw.2.2.2.1.2.2 dX11_isAlive_30
    · simp only [fa_lt, fa_le, fa_eq, li_100] at c_22
      refine lv_iconst (v := 1) hx hb dX11_isAlive_25 (by decide) ?_
      refine lv_goto (tgt := 30) hx hb dX11_isAlive_26 (by decide) ?_
      rw [hQ]
      refine W.widen (k := 0) (n := 0) (Nat.le_refl _) (Nat.le_refl _) ?_
      exact W.zret (v := 1) hx hb hr rfl (fun t ht hW => ⟨⟨1, w_1, rfl, ⟨(by decide), (by decide), hw.2.2.2.2, hM, (by have := li_1; omega)⟩, by rw [ht]; exact hw.2.1, va_K.moved hW.alike hw.1, hw.2.2.1⟩, hw.2.2.2.1.F ht⟩) hw.2.2.2.1.2.2 dX11_isAlive_30
set_option maxHeartbeats 4000000 in
set_option maxRecDepth 100000 in
theorem t_X11_falls (l : Launch) (dC : Nat → ClassId) (dI : Nat → Nat → Nat) (tys : List (ClassId × FieldType)) (κ : tK) (B : Nat) (ws : va_W) (hT : Ty κ tys B ws) (a0 : Nat) (k_a0 : κ a0 = some 11) (a1 : Int32) (a2 : Int32) (sz : Nat) : Met l yX11_falls (ws_u yX11_falls cX11_falls 4 (some .int)) ({ frames := 2, cells := 0, slots := 0, locals := 42 }) (va_Pc [.ref a0, .int a1, .int a2] (cPre (dC, dI) tys ws sz)) (va_Qi (fun (r : Int32) (w : va_W) => (-2147483648) ≤ r.toInt ∧ r.toInt ≤ 2147483646 ∧ Ty κ tys B w ∧ Sm [] [] κ ws w) (fun w t => cPost (dC, dI) tys w (va_A ws sz) t) (va_A ws sz)) 0 0 (va_A ws sz) := by
  refine Met.ofW (cc := cX11_falls) (maxL := 4) (ret := (some .int)) (by decide) rfl ?_
  intro p e s m args below meth c s₁ B0 hml hv
  obtain ⟨rfl, hsz, hP, hK, hD0, hE⟩ := hv
  have hx := B0.exec
  have hb := B0.bytes
  have hr := B0.returns
  have hts0 := atoms_spec (ws := ws_u yX11_falls cX11_falls 4 (some .int)) B0.pre
  have hts : ∀ w ∈ gT, w.before _ s = true := fun w h => hts0 w (List.mem_cons_of_mem _ h)
  have hown : s.vm.findClass RX11 = some m.cls := findClass_of_methodNamed B0.named
  have hlocks := B0.notSynchronized
  subst hsz
  have hD := hD0.self (sz := s.heap.size)
  generalize hAe : va_A ws s.heap.size = A at hD ⊢
  have hA : ∀ q : Nat, s.heap.size ≤ q → A q := fun q h => by rw [← hAe]; exact Or.inr h
  have hw : tW (dC, dI) tys κ B A s ws s.heap [] := ⟨hK, hP, hD, va_S.rf, hT⟩
  have hM : Sm [] [] κ ws ws := Sm.rf
  clear hP hK hD hD0 hts0
  have l_a1 := i32_lo a1
  have h_a1 := i32_hi a1
  have l_a2 := i32_lo a2
  have h_a2 := i32_hi a2
  have hl := lv_entry ([.ref a0, .int a1, .int a2]) (n := 4) (Nat.le_of_ble_eq_true rfl)
  rw [lg_entry_eq]
  generalize (lg_sl ([.ref a0, .int a1, .int a2]) ++ List.replicate (4 - (lg_sl ([.ref a0, .int a1, .int a2])).length) Slot.unset).toArray = ls at hl ⊢
  have hl : lv_has ls 4 [(0, .ref a0), (1, .int a1), (2, .int a2)] := hl
  refine t_start (fun QQ hQ => ?_)
  refine lv_aload_n hx hb dX11_falls_0 rfl (lv_at hl 0 rfl) ?_
  refine lv_iload_n hx hb dX11_falls_1 rfl (lv_at hl 1 rfl) ?_
  refine t_calli (va_runV (As := [.int a1]) (rest := []) ⟨hx, hb, hml, hown, hts⟩ (t_X11_isAlive l dC dI tys κ B ws hw.2.2.2.2 a0 k_a0 a1 s.heap.size) (cwV 1 hts (gUV tw_870 tw_872 ts_1_14 tw_1 tw_873) rfl rfl rfl (by decide +kernel) ⟨(Nat.le_of_ble_eq_true rfl), (Nat.le_of_ble_eq_true rfl)⟩) ⟨cPre.blind, t_recv hw (ci := 11) k_a0 rfl rfl, cPre.use hw.2.1 hw.1 hw.2.2.1 hE⟩ rfl rfl hl.1 rfl (lv_room (Nat.le_of_ble_eq_true rfl)) dX11_falls_2 ⟨(Nat.le_of_ble_eq_true rfl), (Nat.le_of_ble_eq_true rfl)⟩) hw hA (fun _ _ h => h.2.2.1) (fun v2 w_1 H locs hp hw => ?_)
  obtain ⟨l_v2, h_v2, _, hm, x_v2_0⟩ := hp
  have hM := hM.trans hm (by decide) (by decide)
  refine lv_if_eq (tgt := 19) hx hb dX11_falls_5 (by decide) (fun c_5 => ?_) (fun c_5 => ?_)
  · simp only [fa_lt, fa_le, fa_eq, li_0] at c_5
    refine lv_iconst (v := (-1)) hx hb dX11_falls_19 (by decide) ?_
    rw [hQ]
    refine W.widen (k := 0) (n := 0) (Nat.le_refl _) (Nat.le_refl _) ?_
    exact W.iret (v := (-1)) hx hb hr (fun t ht hW => ⟨⟨(-1), w_1, rfl, ⟨(by decide), (by decide), hw.2.2.2.2, hM⟩, by rw [ht]; exact hw.2.1, va_K.moved hW.alike hw.1, hw.2.2.1⟩, hw.2.2.2.1.F ht⟩) hw.2.2.2.1.2.2 dX11_falls_20
  · simp only [fa_lt, fa_le, fa_eq, li_0] at c_5
    refine lv_iload_n hx hb dX11_falls_8 rfl (lv_at hl 2 rfl) ?_
    refine lv_iconst (v := 1) hx hb dX11_falls_9 (by decide) ?_
    refine lv_icmp_lt (tgt := 19) hx hb dX11_falls_10 (by decide) (fun c_10 => ?_) (fun c_10 => ?_)
    · simp only [fa_lt, fa_le, fa_eq, li_1] at c_10
      refine lv_iconst (v := (-1)) hx hb dX11_falls_19 (by decide) ?_
      rw [hQ]
      refine W.widen (k := 0) (n := 0) (Nat.le_refl _) (Nat.le_refl _) ?_
      exact W.iret (v := (-1)) hx hb hr (fun t ht hW => ⟨⟨(-1), w_1, rfl, ⟨(by decide), (by decide), hw.2.2.2.2, hM⟩, by rw [ht]; exact hw.2.1, va_K.moved hW.alike hw.1, hw.2.2.1⟩, hw.2.2.2.1.F ht⟩) hw.2.2.2.1.2.2 dX11_falls_20
    · simp only [fa_lt, fa_le, fa_eq, li_1] at c_10
      refine lv_iload_n hx hb dX11_falls_13 rfl (lv_at hl 2 rfl) ?_
      refine lv_bipush (v := 60) hx hb dX11_falls_14 (by decide) ?_
      refine lv_icmp_le (tgt := 21) hx hb dX11_falls_16 (by decide) (fun c_16 => ?_) (fun c_16 => ?_)
      · simp only [fa_lt, fa_le, fa_eq, li_60] at c_16
        refine lv_aload_n hx hb dX11_falls_21 rfl (lv_at hl 0 rfl) ?_
        refine t_getr (k1 := 10) (ci := 11) (C := RX11) (T := TX11) (N := 12) hx hb hts iX11 hown hw k_a0 rfl rfl rfl 5 (by decide) (hts _ tw_428) (fun _ h9 => h9) dX11_falls_22 rfl (fun v22 k_v22 f_a0_X11_5 => ?_)
        refine t_getr (k1 := 8) (ci := 10) (C := RX10) (T := TX10) (N := 8) hx hb hts iX10 hown hw k_v22 rfl rfl rfl 1 (by decide) (hts _ tw_285) (fun _ h9 => h9) dX11_falls_25 rfl (fun v25 k_v25 f_v22_X10_1 => ?_)
        refine lv_iload_n hx hb dX11_falls_28 rfl (lv_at hl 1 rfl) ?_
        refine t_calli (va_runV (As := [.int a1]) (rest := []) ⟨hx, hb, hml, hown, hts⟩ (t_X8_deathDay l dC dI tys κ B w_1 hw.2.2.2.2 v25 k_v25 a1 (by omega) (by omega) H.size) (cwV 1 hts (gUV tw_998 tw_999 tw_1000 tw_8 tw_1001) rfl rfl rfl (by decide +kernel) ⟨(Nat.le_of_ble_eq_true rfl), (Nat.le_of_ble_eq_true rfl)⟩) ⟨cPre.blind, t_recv hw (ci := 8) k_v25 rfl rfl, cPre.use hw.2.1 hw.1 hw.2.2.1 hE⟩ rfl rfl hl.1 rfl (lv_room (Nat.le_of_ble_eq_true rfl)) dX11_falls_29 ⟨(Nat.le_of_ble_eq_true rfl), (Nat.le_of_ble_eq_true rfl)⟩) hw hA (fun _ _ h => h.1) (fun v29 w_2 H locs hp hw => ?_)
        obtain ⟨_, hm⟩ := hp
        have l_v29 := i32_lo v29
        have h_v29 := i32_hi v29
        have hM := hM.trans hm (by decide) (by decide)
        have f_a0_X11_5 := hm.1 _ _ _ _ f_a0_X11_5 (by decide)
        have f_v22_X10_1 := hm.1 _ _ _ _ f_v22_X10_1 (by decide)
        refine lv_istore_n (lv' := [(3, .int v29), (0, .ref a0), (1, .int a1), (2, .int a2)]) hx hb dX11_falls_32 rfl hl (by decide) rfl (fun ls hl => ?_)
        refine lv_iload_n hx hb dX11_falls_33 rfl (lv_at hl 0 rfl) ?_
        refine lv_aload_n hx hb dX11_falls_34 rfl (lv_at hl 1 rfl) ?_
        refine t_getk (ci := 11) (C := RX11) (T := TX11) (N := 12) hx hb hts iX11 hown hw rfl 5 (by decide) (hts _ tw_428) (fun _ h9 => h9) dX11_falls_35 f_a0_X11_5 ?_
        refine t_getk (ci := 10) (C := RX10) (T := TX10) (N := 8) hx hb hts iX10 hown hw rfl 1 (by decide) (hts _ tw_285) (fun _ h9 => h9) dX11_falls_38 f_v22_X10_1 ?_
        refine t_geti (ci := 8) (C := RX8) (T := TX8) (N := 13) hx hb hts iX8 hown hw k_v25 rfl rfl rfl 0 (by decide) (hts _ tw_222) (fun _ h9 => h9) dX11_falls_41 rfl (fun v41 l_v41 h_v41 f_v25_X8_0 => ?_)
        have l_v41 : (-2147483648) ≤ v41.toInt := l_v41
        have h_v41 : v41.toInt ≤ 2147483647 := h_v41
        refine lv_iload_n hx hb dX11_falls_44 rfl (lv_at hl 3 rfl) ?_
        refine lv_iadd hx hb dX11_falls_45 ?_
        refine lv_topi (fun v45 e_v45 => ?_)
        have l_v45 := i32_lo v45
        have h_v45 := i32_hi v45
        refine lv_icmp_ge (tgt := 53) hx hb dX11_falls_46 (by decide) (fun c_46 => ?_) (fun c_46 => ?_)
        · simp only [fa_lt, fa_le, fa_eq] at c_46
          refine lv_bipush (v := (-2)) hx hb dX11_falls_53 (by decide) ?_
          rw [hQ]
          refine W.widen (k := 0) (n := 0) (Nat.le_refl _) (Nat.le_refl _) ?_
          exact W.iret (v := (-2)) hx hb hr (fun t ht hW => ⟨⟨(-2), w_2, rfl, ⟨(by decide), (by decide), hw.2.2.2.2, hM⟩, by rw [ht]; exact hw.2.1, va_K.moved hW.alike hw.1, hw.2.2.1⟩, hw.2.2.2.1.F ht⟩) hw.2.2.2.1.2.2 dX11_falls_55
        · simp only [fa_lt, fa_le, fa_eq] at c_46
          refine lv_iload_n hx hb dX11_falls_49 rfl (lv_at hl 0 rfl) ?_
          refine lv_goto (tgt := 55) hx hb dX11_falls_50 (by decide) ?_
          rw [hQ]
          refine W.widen (k := 0) (n := 0) (Nat.le_refl _) (Nat.le_refl _) ?_
          exact W.iret (v := v29) hx hb hr (fun t ht hW => ⟨⟨v29, w_2, rfl, ⟨(by omega), (by omega), hw.2.2.2.2, hM⟩, by rw [ht]; exact hw.2.1, va_K.moved hW.alike hw.1, hw.2.2.1⟩, hw.2.2.2.1.F ht⟩) hw.2.2.2.1.2.2 dX11_falls_55
      · simp only [fa_lt, fa_le, fa_eq, li_60] at c_16
        refine lv_iconst (v := (-1)) hx hb dX11_falls_19 (by decide) ?_
        rw [hQ]
        refine W.widen (k := 0) (n := 0) (Nat.le_refl _) (Nat.le_refl _) ?_
        exact W.iret (v := (-1)) hx hb hr (fun t ht hW => ⟨⟨(-1), w_1, rfl, ⟨(by decide), (by decide), hw.2.2.2.2, hM⟩, by rw [ht]; exact hw.2.1, va_K.moved hW.alike hw.1, hw.2.2.1⟩, hw.2.2.2.1.F ht⟩) hw.2.2.2.1.2.2 dX11_falls_20
set_option maxHeartbeats 4000000 in
set_option maxRecDepth 100000 in
theorem t_X11_hoursFromChurch (l : Launch) (dC : Nat → ClassId) (dI : Nat → Nat → Nat) (tys : List (ClassId × FieldType)) (κ : tK) (B : Nat) (ws : va_W) (hT : Ty κ tys B ws) (a0 : Nat) (k_a0 : κ a0 = some 11) (a1 : Int32) (l_a1 : 0 ≤ a1.toInt) (h_a1 : a1.toInt ≤ 5) (sz : Nat) : Met l yX11_hoursFromChurch (ws_u yX11_hoursFromChurch cX11_hoursFromChurch 3 (some .int)) ({ frames := 1, cells := 0, slots := 0, locals := 22 }) (va_Pc [.ref a0, .int a1] (cPre (dC, dI) tys ws sz)) (va_Qi (fun (r : Int32) (w : va_W) => (-2147483648) ≤ r.toInt ∧ r.toInt ≤ 999999 ∧ Ty κ tys B w ∧ Sm [] [] κ ws w) (fun w t => cPost (dC, dI) tys w (va_A ws sz) t) (va_A ws sz)) 0 0 (va_A ws sz) := by
  refine Met.ofW (cc := cX11_hoursFromChurch) (maxL := 3) (ret := (some .int)) (by decide) rfl ?_
  intro p e s m args below meth c s₁ B0 hml hv
  obtain ⟨rfl, hsz, hP, hK, hD0, hE⟩ := hv
  have hx := B0.exec
  have hb := B0.bytes
  have hr := B0.returns
  have hts0 := atoms_spec (ws := ws_u yX11_hoursFromChurch cX11_hoursFromChurch 3 (some .int)) B0.pre
  have hts : ∀ w ∈ gT, w.before _ s = true := fun w h => hts0 w (List.mem_cons_of_mem _ h)
  have hown : s.vm.findClass RX11 = some m.cls := findClass_of_methodNamed B0.named
  have hlocks := B0.notSynchronized
  subst hsz
  have hD := hD0.self (sz := s.heap.size)
  generalize hAe : va_A ws s.heap.size = A at hD ⊢
  have hA : ∀ q : Nat, s.heap.size ≤ q → A q := fun q h => by rw [← hAe]; exact Or.inr h
  have hw : tW (dC, dI) tys κ B A s ws s.heap [] := ⟨hK, hP, hD, va_S.rf, hT⟩
  have hM : Sm [] [] κ ws ws := Sm.rf
  clear hP hK hD hD0 hts0
  have hl := lv_entry ([.ref a0, .int a1]) (n := 3) (Nat.le_of_ble_eq_true rfl)
  rw [lg_entry_eq]
  generalize (lg_sl ([.ref a0, .int a1]) ++ List.replicate (3 - (lg_sl ([.ref a0, .int a1])).length) Slot.unset).toArray = ls at hl ⊢
  have hl : lv_has ls 3 [(0, .ref a0), (1, .int a1)] := hl
  refine t_start (fun QQ hQ => ?_)
  refine lv_aload_n hx hb dX11_hoursFromChurch_0 rfl (lv_at hl 0 rfl) ?_
  refine t_getr (k1 := 10) (ci := 11) (C := RX11) (T := TX11) (N := 12) hx hb hts iX11 hown hw k_a0 rfl rfl rfl 5 (by decide) (hts _ tw_428) (fun _ h9 => h9) dX11_hoursFromChurch_1 rfl (fun v1 k_v1 f_a0_X11_5 => ?_)
  refine t_getr (k1 := 0) (ci := 10) (C := RX10) (T := TX10) (N := 8) hx hb hts iX10 hown hw k_v1 rfl rfl rfl 0 (by decide) (hts _ tw_282) (fun _ h9 => h9) dX11_hoursFromChurch_4 rfl (fun v4 k_v4 f_v1_X10_0 => ?_)
  refine lv_iconst (v := 0) hx hb dX11_hoursFromChurch_7 (by decide) ?_
  refine lv_iload_n hx hb dX11_hoursFromChurch_8 rfl (lv_at hl 1 rfl) ?_
  refine lv_iconst (v := 1) hx hb dX11_hoursFromChurch_9 (by decide) ?_
  refine lv_iadd hx hb dX11_hoursFromChurch_10 ?_
  refine lv_topi (fun v10 e_v10 => ?_)
  have e_v10 : v10.toInt = a1.toInt + 1 := ad_i e_v10 rfl li_1 (by omega) (by omega)
  refine t_calli (va_runV (As := [.int 0, .int v10]) (rest := []) ⟨hx, hb, hml, hown, hts⟩ (t_X0_hoursBetween l dC dI tys κ B ws hw.2.2.2.2 v4 k_v4 0 (by decide) (by decide) v10 (by omega) (by omega) s.heap.size) (cwV 2 hts (gUV tw_738 tw_739 tw_740 tw_4 tw_741) rfl rfl rfl (by decide +kernel) ⟨(Nat.le_of_ble_eq_true rfl), (Nat.le_of_ble_eq_true rfl)⟩) ⟨cPre.blind, t_recv hw (ci := 0) k_v4 rfl rfl, cPre.use hw.2.1 hw.1 hw.2.2.1 hE⟩ rfl rfl hl.1 rfl (lv_room (Nat.le_of_ble_eq_true rfl)) dX11_hoursFromChurch_11 ⟨(Nat.le_of_ble_eq_true rfl), (Nat.le_of_ble_eq_true rfl)⟩) hw hA (fun _ _ h => h.1) (fun v11 w_1 H locs hp hw => ?_)
  obtain ⟨_, hm⟩ := hp
  have l_v11 := i32_lo v11
  have h_v11 := i32_hi v11
  have hM := hM.trans hm (by decide) (by decide)
  have f_a0_X11_5 := hm.1 _ _ _ _ f_a0_X11_5 (by decide)
  have f_v1_X10_0 := hm.1 _ _ _ _ f_v1_X10_0 (by decide)
  refine lv_istore_n (lv' := [(2, .int v11), (0, .ref a0), (1, .int a1)]) hx hb dX11_hoursFromChurch_14 rfl hl (by decide) rfl (fun ls hl => ?_)
  refine lv_iload_n hx hb dX11_hoursFromChurch_15 rfl (lv_at hl 0 rfl) ?_
  refine lv_ldc (v := 1000000) hx hb hown (hts _ tw_742) dX11_hoursFromChurch_16 ?_
  refine lv_icmp_ge (tgt := 25) hx hb dX11_hoursFromChurch_18 (by decide) (fun c_18 => ?_) (fun c_18 => ?_)
  · simp only [fa_lt, fa_le, fa_eq, li_1000000] at c_18
    refine lv_iconst (v := (-1)) hx hb dX11_hoursFromChurch_25 (by decide) ?_
    rw [hQ]
    refine W.widen (k := 0) (n := 0) (Nat.le_refl _) (Nat.le_refl _) ?_
    exact W.iret (v := (-1)) hx hb hr (fun t ht hW => ⟨⟨(-1), w_1, rfl, ⟨(by decide), (by decide), hw.2.2.2.2, hM⟩, by rw [ht]; exact hw.2.1, va_K.moved hW.alike hw.1, hw.2.2.1⟩, hw.2.2.2.1.F ht⟩) hw.2.2.2.1.2.2 dX11_hoursFromChurch_26
  · simp only [fa_lt, fa_le, fa_eq, li_1000000] at c_18
    refine lv_iload_n hx hb dX11_hoursFromChurch_21 rfl (lv_at hl 0 rfl) ?_
    refine lv_goto (tgt := 26) hx hb dX11_hoursFromChurch_22 (by decide) ?_
    rw [hQ]
    refine W.widen (k := 0) (n := 0) (Nat.le_refl _) (Nat.le_refl _) ?_
    exact W.iret (v := v11) hx hb hr (fun t ht hW => ⟨⟨v11, w_1, rfl, ⟨(by omega), (by omega), hw.2.2.2.2, hM⟩, by rw [ht]; exact hw.2.1, va_K.moved hW.alike hw.1, hw.2.2.1⟩, hw.2.2.2.1.F ht⟩) hw.2.2.2.1.2.2 dX11_hoursFromChurch_26
set_option maxHeartbeats 4000000 in
set_option maxRecDepth 100000 in
theorem t_X11_farm (l : Launch) (dC : Nat → ClassId) (dI : Nat → Nat → Nat) (tys : List (ClassId × FieldType)) (κ : tK) (B : Nat) (ws : va_W) (hT : Ty κ tys B ws) (a0 : Nat) (k_a0 : κ a0 = some 11) (a1 : Int32) (a2 : Int32) (sz : Nat) : Met l yX11_farm (ws_u yX11_farm cX11_farm 3 (some .int)) ({ frames := 2, cells := 0, slots := 0, locals := 44 }) (va_Pc [.ref a0, .int a1, .int a2] (cPre (dC, dI) tys ws sz)) (va_Qi (fun (r : Int32) (w : va_W) => Ty κ tys B w ∧ Sm [] [] κ ws w) (fun w t => cPost (dC, dI) tys w (va_A ws sz) t) (va_A ws sz)) 0 0 (va_A ws sz) := by
  refine Met.ofW (cc := cX11_farm) (maxL := 3) (ret := (some .int)) (by decide) rfl ?_
  intro p e s m args below meth c s₁ B0 hml hv
  obtain ⟨rfl, hsz, hP, hK, hD0, hE⟩ := hv
  have hx := B0.exec
  have hb := B0.bytes
  have hr := B0.returns
  have hts0 := atoms_spec (ws := ws_u yX11_farm cX11_farm 3 (some .int)) B0.pre
  have hts : ∀ w ∈ gT, w.before _ s = true := fun w h => hts0 w (List.mem_cons_of_mem _ h)
  have hown : s.vm.findClass RX11 = some m.cls := findClass_of_methodNamed B0.named
  have hlocks := B0.notSynchronized
  subst hsz
  have hD := hD0.self (sz := s.heap.size)
  generalize hAe : va_A ws s.heap.size = A at hD ⊢
  have hA : ∀ q : Nat, s.heap.size ≤ q → A q := fun q h => by rw [← hAe]; exact Or.inr h
  have hw : tW (dC, dI) tys κ B A s ws s.heap [] := ⟨hK, hP, hD, va_S.rf, hT⟩
  have hM : Sm [] [] κ ws ws := Sm.rf
  clear hP hK hD hD0 hts0
  have l_a1 := i32_lo a1
  have h_a1 := i32_hi a1
  have l_a2 := i32_lo a2
  have h_a2 := i32_hi a2
  have hl := lv_entry ([.ref a0, .int a1, .int a2]) (n := 3) (Nat.le_of_ble_eq_true rfl)
  rw [lg_entry_eq]
  generalize (lg_sl ([.ref a0, .int a1, .int a2]) ++ List.replicate (3 - (lg_sl ([.ref a0, .int a1, .int a2])).length) Slot.unset).toArray = ls at hl ⊢
  have hl : lv_has ls 3 [(0, .ref a0), (1, .int a1), (2, .int a2)] := hl
  refine t_start (fun QQ hQ => ?_)
  refine lv_aload_n hx hb dX11_farm_0 rfl (lv_at hl 0 rfl) ?_
  refine lv_iload_n hx hb dX11_farm_1 rfl (lv_at hl 1 rfl) ?_
  refine t_calli (va_runV (As := [.int a1]) (rest := []) ⟨hx, hb, hml, hown, hts⟩ (t_X11_isFarm l dC dI tys κ B ws hw.2.2.2.2 a0 k_a0 a1 s.heap.size) (cwV 1 hts (gUV tw_730 tw_732 ts_1_1 tw_1 tw_733) rfl rfl rfl (by decide +kernel) ⟨(Nat.le_of_ble_eq_true rfl), (Nat.le_of_ble_eq_true rfl)⟩) ⟨cPre.blind, t_recv hw (ci := 11) k_a0 rfl rfl, cPre.use hw.2.1 hw.1 hw.2.2.1 hE⟩ rfl rfl hl.1 rfl (lv_room (Nat.le_of_ble_eq_true rfl)) dX11_farm_2 ⟨(Nat.le_of_ble_eq_true rfl), (Nat.le_of_ble_eq_true rfl)⟩) hw hA (fun _ _ h => h.2.2.1) (fun v2 w_1 H locs hp hw => ?_)
  obtain ⟨l_v2, h_v2, _, hm, x_v2_0⟩ := hp
  have hM := hM.trans hm (by decide) (by decide)
  refine lv_if_ne (tgt := 11) hx hb dX11_farm_5 (by decide) (fun c_5 => ?_) (fun c_5 => ?_)
  · simp only [fa_lt, fa_le, fa_eq, li_0] at c_5
    refine lv_iload_n hx hb dX11_farm_11 rfl (lv_at hl 2 rfl) ?_
    rcases Classical.em (a2.toInt = 0) with c_12_0 | c_12_0
    · refine lv_tableIn (tgt := 44) hx hb dX11_farm_12 (by omega) (by omega) (by rw [c_12_0]; rfl) (by decide) ?_
      refine lv_aload_n hx hb dX11_farm_44 rfl (lv_at hl 0 rfl) ?_
      refine t_getr (k1 := 10) (ci := 11) (C := RX11) (T := TX11) (N := 12) hx hb hts iX11 hown hw k_a0 rfl rfl rfl 5 (by decide) (hts _ tw_428) (fun _ h9 => h9) dX11_farm_45 rfl (fun v45 k_v45 f_a0_X11_5 => ?_)
      refine t_getr (k1 := 0) (ci := 10) (C := RX10) (T := TX10) (N := 8) hx hb hts iX10 hown hw k_v45 rfl rfl rfl 0 (by decide) (hts _ tw_282) (fun _ h9 => h9) dX11_farm_48 rfl (fun v48 k_v48 f_v45_X10_0 => ?_)
      refine t_getr (k1 := 26) (ci := 0) (C := RX0) (T := TX0) (N := 16) hx hb hts iX0 hown hw k_v48 rfl rfl rfl 12 (by decide) (hts _ tw_114) (fun _ h9 => h9) dX11_farm_51 rfl (fun v51 k_v51 f_v48_X0_12 => ?_)
      refine lv_iload_n hx hb dX11_farm_54 rfl (lv_at hl 1 rfl) ?_
      refine t_iald hx hb hw k_v51 rfl rfl (by omega) (show a1.toInt < 6 by omega) dX11_farm_55 (fun v55 r_v55 s_v55 q_v55 => ?_)
      have l_v55 := i32_lo v55
      have h_v55 := i32_hi v55
      rw [hQ]
      refine W.widen (k := 0) (n := 0) (Nat.le_refl _) (Nat.le_refl _) ?_
      exact W.iret (v := v55) hx hb hr (fun t ht hW => ⟨⟨v55, w_1, rfl, ⟨hw.2.2.2.2, hM⟩, by rw [ht]; exact hw.2.1, va_K.moved hW.alike hw.1, hw.2.2.1⟩, hw.2.2.2.1.F ht⟩) hw.2.2.2.1.2.2 dX11_farm_56
    rcases Classical.em (a2.toInt = 1) with c_12_1 | c_12_1
    · refine lv_tableIn (tgt := 57) hx hb dX11_farm_12 (by omega) (by omega) (by rw [c_12_1]; rfl) (by decide) ?_
      refine lv_aload_n hx hb dX11_farm_57 rfl (lv_at hl 0 rfl) ?_
      refine t_getr (k1 := 10) (ci := 11) (C := RX11) (T := TX11) (N := 12) hx hb hts iX11 hown hw k_a0 rfl rfl rfl 5 (by decide) (hts _ tw_428) (fun _ h9 => h9) dX11_farm_58 rfl (fun v58 k_v58 f_a0_X11_5 => ?_)
      refine t_getr (k1 := 0) (ci := 10) (C := RX10) (T := TX10) (N := 8) hx hb hts iX10 hown hw k_v58 rfl rfl rfl 0 (by decide) (hts _ tw_282) (fun _ h9 => h9) dX11_farm_61 rfl (fun v61 k_v61 f_v58_X10_0 => ?_)
      refine t_getr (k1 := 27) (ci := 0) (C := RX0) (T := TX0) (N := 16) hx hb hts iX0 hown hw k_v61 rfl rfl rfl 13 (by decide) (hts _ tw_118) (fun _ h9 => h9) dX11_farm_64 rfl (fun v64 k_v64 f_v61_X0_13 => ?_)
      refine lv_iload_n hx hb dX11_farm_67 rfl (lv_at hl 1 rfl) ?_
      refine t_iald hx hb hw k_v64 rfl rfl (by omega) (show a1.toInt < 6 by omega) dX11_farm_68 (fun v68 r_v68 s_v68 q_v68 => ?_)
      have l_v68 := i32_lo v68
      have h_v68 := i32_hi v68
      rw [hQ]
      refine W.widen (k := 0) (n := 0) (Nat.le_refl _) (Nat.le_refl _) ?_
      exact W.iret (v := v68) hx hb hr (fun t ht hW => ⟨⟨v68, w_1, rfl, ⟨hw.2.2.2.2, hM⟩, by rw [ht]; exact hw.2.1, va_K.moved hW.alike hw.1, hw.2.2.1⟩, hw.2.2.2.1.F ht⟩) hw.2.2.2.1.2.2 dX11_farm_69
    rcases Classical.em (a2.toInt = 2) with c_12_2 | c_12_2
    · refine lv_tableIn (tgt := 70) hx hb dX11_farm_12 (by omega) (by omega) (by rw [c_12_2]; rfl) (by decide) ?_
      refine lv_aload_n hx hb dX11_farm_70 rfl (lv_at hl 0 rfl) ?_
      refine t_getr (k1 := 10) (ci := 11) (C := RX11) (T := TX11) (N := 12) hx hb hts iX11 hown hw k_a0 rfl rfl rfl 5 (by decide) (hts _ tw_428) (fun _ h9 => h9) dX11_farm_71 rfl (fun v71 k_v71 f_a0_X11_5 => ?_)
      refine t_getr (k1 := 8) (ci := 10) (C := RX10) (T := TX10) (N := 8) hx hb hts iX10 hown hw k_v71 rfl rfl rfl 1 (by decide) (hts _ tw_285) (fun _ h9 => h9) dX11_farm_74 rfl (fun v74 k_v74 f_v71_X10_1 => ?_)
      refine t_getr (k1 := 48) (ci := 8) (C := RX8) (T := TX8) (N := 13) hx hb hts iX8 hown hw k_v74 rfl rfl rfl 12 (by decide) (hts _ tw_253) (fun _ h9 => h9) dX11_farm_77 rfl (fun v77 k_v77 f_v74_X8_12 => ?_)
      refine lv_iload_n hx hb dX11_farm_80 rfl (lv_at hl 1 rfl) ?_
      refine t_iald hx hb hw k_v77 rfl rfl (by omega) (show a1.toInt < 6 by omega) dX11_farm_81 (fun v81 r_v81 s_v81 q_v81 => ?_)
      have l_v81 := i32_lo v81
      have h_v81 := i32_hi v81
      rw [hQ]
      refine W.widen (k := 0) (n := 0) (Nat.le_refl _) (Nat.le_refl _) ?_
      exact W.iret (v := v81) hx hb hr (fun t ht hW => ⟨⟨v81, w_1, rfl, ⟨hw.2.2.2.2, hM⟩, by rw [ht]; exact hw.2.1, va_K.moved hW.alike hw.1, hw.2.2.1⟩, hw.2.2.2.1.F ht⟩) hw.2.2.2.1.2.2 dX11_farm_82
    rcases Classical.em (a2.toInt = 3) with c_12_3 | c_12_3
    · refine lv_tableIn (tgt := 83) hx hb dX11_farm_12 (by omega) (by omega) (by rw [c_12_3]; rfl) (by decide) ?_
      refine lv_aload_n hx hb dX11_farm_83 rfl (lv_at hl 0 rfl) ?_
      refine lv_iload_n hx hb dX11_farm_84 rfl (lv_at hl 1 rfl) ?_
      refine t_calli (va_runV (As := [.int a1]) (rest := []) ⟨hx, hb, hml, hown, hts⟩ (t_X11_hoursFromChurch l dC dI tys κ B w_1 hw.2.2.2.2 a0 k_a0 a1 (by omega) (by omega) H.size) (cwV 1 hts (gUV tw_734 tw_736 ts_1_2 tw_1 tw_737) rfl rfl rfl (by decide +kernel) ⟨(Nat.le_of_ble_eq_true rfl), (Nat.le_of_ble_eq_true rfl)⟩) ⟨cPre.blind, t_recv hw (ci := 11) k_a0 rfl rfl, cPre.use hw.2.1 hw.1 hw.2.2.1 hE⟩ rfl rfl hl.1 rfl (lv_room (Nat.le_of_ble_eq_true rfl)) dX11_farm_85 ⟨(Nat.le_of_ble_eq_true rfl), (Nat.le_of_ble_eq_true rfl)⟩) hw hA (fun _ _ h => h.2.2.1) (fun v85 w_2 H locs hp hw => ?_)
      obtain ⟨l_v85, h_v85, _, hm⟩ := hp
      have hM := hM.trans hm (by decide) (by decide)
      rw [hQ]
      refine W.widen (k := 0) (n := 0) (Nat.le_refl _) (Nat.le_refl _) ?_
      exact W.iret (v := v85) hx hb hr (fun t ht hW => ⟨⟨v85, w_2, rfl, ⟨hw.2.2.2.2, hM⟩, by rw [ht]; exact hw.2.1, va_K.moved hW.alike hw.1, hw.2.2.1⟩, hw.2.2.2.1.F ht⟩) hw.2.2.2.1.2.2 dX11_farm_88
    · refine lv_tableOut (tgt := 89) hx hb dX11_farm_12 (by omega) (by decide) ?_
      refine lv_bipush (v := (-2)) hx hb dX11_farm_89 (by decide) ?_
      rw [hQ]
      refine W.widen (k := 0) (n := 0) (Nat.le_refl _) (Nat.le_refl _) ?_
      exact W.iret (v := (-2)) hx hb hr (fun t ht hW => ⟨⟨(-2), w_1, rfl, ⟨hw.2.2.2.2, hM⟩, by rw [ht]; exact hw.2.1, va_K.moved hW.alike hw.1, hw.2.2.1⟩, hw.2.2.2.1.F ht⟩) hw.2.2.2.1.2.2 dX11_farm_91
  · simp only [fa_lt, fa_le, fa_eq, li_0] at c_5
    refine lv_bipush (v := (-2)) hx hb dX11_farm_8 (by decide) ?_
    rw [hQ]
    refine W.widen (k := 0) (n := 0) (Nat.le_refl _) (Nat.le_refl _) ?_
    exact W.iret (v := (-2)) hx hb hr (fun t ht hW => ⟨⟨(-2), w_1, rfl, ⟨hw.2.2.2.2, hM⟩, by rw [ht]; exact hw.2.1, va_K.moved hW.alike hw.1, hw.2.2.1⟩, hw.2.2.2.1.F ht⟩) hw.2.2.2.1.2.2 dX11_farm_10
set_option maxHeartbeats 4000000 in
set_option maxRecDepth 100000 in
theorem t_X9_add (l : Launch) (dC : Nat → ClassId) (dI : Nat → Nat → Nat) (tys : List (ClassId × FieldType)) (κ : tK) (B : Nat) (ws : va_W) (hT : Ty κ tys B ws) (a0 : Nat) (k_a0 : κ a0 = some 9) (a1 : Int32) (sz : Nat) : Met l yX9_add (ws_u yX9_add cX9_add 3 none) ({ frames := 0, cells := 0, slots := 0, locals := 0 }) (va_Pc [.ref a0, .int a1] (cPre (dC, dI) tys ws sz)) (va_Qv (fun (w : va_W) => Ty κ tys B w ∧ Sm [(9, 1)] [49] κ ws w) (fun w t => cPost (dC, dI) tys w (va_A ws sz) t) (va_A ws sz)) 0 0 (va_A ws sz) := by
  refine Met.ofW (cc := cX9_add) (maxL := 3) (ret := none) (by decide) rfl ?_
  intro p e s m args below meth c s₁ B0 hml hv
  obtain ⟨rfl, hsz, hP, hK, hD0, hE⟩ := hv
  have hx := B0.exec
  have hb := B0.bytes
  have hr := B0.returns
  have hts0 := atoms_spec (ws := ws_u yX9_add cX9_add 3 none) B0.pre
  have hts : ∀ w ∈ gT, w.before _ s = true := fun w h => hts0 w (List.mem_cons_of_mem _ h)
  have hown : s.vm.findClass RX9 = some m.cls := findClass_of_methodNamed B0.named
  have hlocks := B0.notSynchronized
  subst hsz
  have hD := hD0.self (sz := s.heap.size)
  generalize hAe : va_A ws s.heap.size = A at hD ⊢
  have hA : ∀ q : Nat, s.heap.size ≤ q → A q := fun q h => by rw [← hAe]; exact Or.inr h
  have hw : tW (dC, dI) tys κ B A s ws s.heap [] := ⟨hK, hP, hD, va_S.rf, hT⟩
  have hM : Sm [(9, 1)] [49] κ ws ws := Sm.rf
  clear hP hK hD hD0 hts0
  have l_a1 := i32_lo a1
  have h_a1 := i32_hi a1
  have hl := lv_entry ([.ref a0, .int a1]) (n := 3) (Nat.le_of_ble_eq_true rfl)
  rw [lg_entry_eq]
  generalize (lg_sl ([.ref a0, .int a1]) ++ List.replicate (3 - (lg_sl ([.ref a0, .int a1])).length) Slot.unset).toArray = ls at hl ⊢
  have hl : lv_has ls 3 [(0, .ref a0), (1, .int a1)] := hl
  refine t_start (fun QQ hQ => ?_)
  refine lv_bipush (v := 24) hx hb dX9_add_0 (by decide) ?_
  refine lv_istore_n (lv' := [(2, .int 24), (0, .ref a0), (1, .int a1)]) hx hb dX9_add_2 rfl hl (by decide) rfl (fun ls hl => ?_)
  have J3 : ∀ (n : Nat) (H : Heap) (locs : List Loc) (ls : Array Slot), (∃ (w3 : va_W) (p3_l2 : Int32), tW (dC, dI) tys κ B A s w3 H locs ∧ Sm [(9, 1)] [49] κ ws w3 ∧ (-8) ≤ p3_l2.toInt ∧ p3_l2.toInt ≤ 24 ∧ lv_has ls 3 [(0, .ref a0), (1, .int a1), (2, .int p3_l2)] ∧ (p3_l2.toInt - (-8)).toNat = n) → W p l e (headSpec (ws_u yX9_add cX9_add 3 none) ({ frames := 0, cells := 0, slots := 0, locals := 0 })).room s m ([.ref a0, .int a1] : List Value).toArray below meth c H locs 0 0 QQ (F0 m 3 ls []) := by
    refine loopT _ ?_
    intro n_3 H locs ls hI ih_3
    obtain ⟨w3, p3_l2, hw, hM, l_p3_l2, h_p3_l2, hl, hn_3⟩ := hI
    refine lv_iload_n hx hb dX9_add_3 rfl (lv_at hl 2 rfl) ?_
    refine lv_if_lt (tgt := 46) hx hb dX9_add_4 (by decide) (fun c_4 => ?_) (fun c_4 => ?_)
    · simp only [fa_lt, fa_le, fa_eq, li_0] at c_4
      rw [hQ]
      refine W.widen (k := 0) (n := 0) (Nat.le_refl _) (Nat.le_refl _) ?_
      exact W.vret hx hb hr (fun t ht hW => ⟨⟨w3, rfl, ⟨hw.2.2.2.2, hM⟩, by rw [ht]; exact hw.2.1, va_K.moved hW.alike hw.1, hw.2.2.1⟩, hw.2.2.2.1.F ht⟩) hw.2.2.2.1.2.2 dX9_add_46
    · simp only [fa_lt, fa_le, fa_eq, li_0] at c_4
      refine lv_aload_n hx hb dX9_add_7 rfl (lv_at hl 0 rfl) ?_
      refine t_geti (ci := 9) (C := RX9) (T := TX9) (N := 4) hx hb hts iX9 hown hw k_a0 rfl rfl rfl 1 (by decide) (hts _ tw_37) (fun _ h9 => h9) dX9_add_8 rfl (fun v8 l_v8 h_v8 f_a0_X9_1 => ?_)
      have l_v8 : 0 ≤ v8.toInt := l_v8
      have h_v8 : v8.toInt ≤ 400 := h_v8
      refine lv_sipush (v := 400) hx hb dX9_add_11 (by decide) ?_
      refine lv_icmp_ge (tgt := 46) hx hb dX9_add_14 (by decide) (fun c_14 => ?_) (fun c_14 => ?_)
      · simp only [fa_lt, fa_le, fa_eq, li_400] at c_14
        rw [hQ]
        refine W.widen (k := 0) (n := 0) (Nat.le_refl _) (Nat.le_refl _) ?_
        exact W.vret hx hb hr (fun t ht hW => ⟨⟨w3, rfl, ⟨hw.2.2.2.2, hM⟩, by rw [ht]; exact hw.2.1, va_K.moved hW.alike hw.1, hw.2.2.1⟩, hw.2.2.2.1.F ht⟩) hw.2.2.2.1.2.2 dX9_add_46
      · simp only [fa_lt, fa_le, fa_eq, li_400] at c_14
        refine lv_aload_n hx hb dX9_add_17 rfl (lv_at hl 0 rfl) ?_
        refine t_getr (k1 := 49) (ci := 9) (C := RX9) (T := TX9) (N := 4) hx hb hts iX9 hown hw k_a0 rfl rfl rfl 0 (by decide) (hts _ tw_36) (fun _ h9 => h9) dX9_add_18 rfl (fun v18 k_v18 f_a0_X9_0 => ?_)
        refine lv_aload_n hx hb dX9_add_21 rfl (lv_at hl 0 rfl) ?_
        refine t_getk (ci := 9) (C := RX9) (T := TX9) (N := 4) hx hb hts iX9 hown hw rfl 1 (by decide) (hts _ tw_37) (fun _ h9 => h9) dX9_add_22 f_a0_X9_1 ?_
        refine lv_iload_n hx hb dX9_add_25 rfl (lv_at hl 1 rfl) ?_
        refine lv_iload_n hx hb dX9_add_26 rfl (lv_at hl 2 rfl) ?_
        refine lv_ishr hx hb dX9_add_27 ?_
        refine lv_topi (fun v27 e_v27 => ?_)
        have l_v27 := i32_lo v27
        have h_v27 := i32_hi v27
        refine lv_i2b hx hb dX9_add_28 rfl ?_
        refine lv_topi (fun v28 e_v28 => ?_)
        have l_v28 := i32_lo v28
        have h_v28 := i32_hi v28
        refine t_bast hx hb hw k_v18 rfl rfl (by omega) (show v8.toInt < 400 by omega) (fun _ => rfl) dX9_add_29 (fun w_1 H locs hw u => ?_)
        have hM := hM.up3 u k_v18 (by decide)
        have f_a0_X9_1 := u.1 _ _ _ _ f_a0_X9_1
        have f_a0_X9_0 := u.1 _ _ _ _ f_a0_X9_0
        refine lv_aload_n hx hb dX9_add_30 rfl (lv_at hl 0 rfl) ?_
        refine lv_dup hx hb dX9_add_31 rfl ?_
        refine t_getk (ci := 9) (C := RX9) (T := TX9) (N := 4) hx hb hts iX9 hown hw rfl 1 (by decide) (hts _ tw_37) (fun _ h9 => h9) dX9_add_32 f_a0_X9_1 ?_
        refine lv_iconst (v := 1) hx hb dX9_add_35 (by decide) ?_
        refine lv_iadd hx hb dX9_add_36 ?_
        refine lv_topi (fun v36 e_v36 => ?_)
        have e_v36 : v36.toInt = v8.toInt + 1 := ad_i e_v36 rfl li_1 (by omega) (by omega)
        refine t_put (ci := 9) (C := RX9) (T := TX9) (N := 4) (v := .int v36) hx hb hts iX9 tyX9 tyX9_ok nmX9 hown hw k_a0 rfl rfl rfl 1 (by decide) (hts _ tw_37) (fun _ h9 => h9) rfl (tyX9_ok 1 (by decide)) rfl rfl (okV.int rfl (by omega) (by omega)) dX9_add_37 (fun w_2 H locs hw u => ?_)
        have hM := hM.up1 u (by decide)
        have f_a0_X9_1 := u.2.2
        have f_a0_X9_0 := u.1 _ _ _ _ f_a0_X9_0 (Or.inr (Or.inr (by decide)))
        obtain ⟨v40, e_v40⟩ : ∃ y : Int32, y = p3_l2 + (-8) := ⟨_, rfl⟩
        refine lv_iinc (v := v40) (lv' := [(2, .int v40), (0, .ref a0), (1, .int a1)]) hx hb dX9_add_40 hl (k := 2) rfl e_v40.symm (by decide) rfl (fun ls hl => ?_)
        have e_v40 : v40.toInt = p3_l2.toInt + (-8) := ad_i e_v40 rfl li_m8 (by omega) (by omega)
        refine lv_goto (tgt := 3) hx hb dX9_add_43 (by decide) ?_
        exact ih_3 _ _ _ _ (by omega) ⟨w_2, v40, hw, hM, (by omega), (by omega), (lv_sub hl [1, 2, 0] rfl), rfl⟩
  exact J3 _ _ _ _ ⟨ws, 24, hw, hM, (by decide), (by decide), (lv_sub hl [1, 2, 0] rfl), rfl⟩
set_option maxHeartbeats 4000000 in
set_option maxRecDepth 100000 in
theorem t_X9_hasRoom (l : Launch) (dC : Nat → ClassId) (dI : Nat → Nat → Nat) (tys : List (ClassId × FieldType)) (κ : tK) (B : Nat) (ws : va_W) (hT : Ty κ tys B ws) (a0 : Nat) (k_a0 : κ a0 = some 9) (a1 : Int32) (l_a1 : 20 ≤ a1.toInt) (h_a1 : a1.toInt ≤ 20) (sz : Nat) : Met l yX9_hasRoom (ws_u yX9_hasRoom cX9_hasRoom 2 (some .boolean)) ({ frames := 0, cells := 0, slots := 0, locals := 0 }) (va_Pc [.ref a0, .int a1] (cPre (dC, dI) tys ws sz)) (va_Qi (fun (r : Int32) (w : va_W) => 0 ≤ r.toInt ∧ r.toInt ≤ 1 ∧ Ty κ tys B w ∧ Sm [] [] κ ws w) (fun w t => cPost (dC, dI) tys w (va_A ws sz) t) (va_A ws sz)) 0 0 (va_A ws sz) := by
  refine Met.ofW (cc := cX9_hasRoom) (maxL := 2) (ret := (some .boolean)) (by decide) rfl ?_
  intro p e s m args below meth c s₁ B0 hml hv
  obtain ⟨rfl, hsz, hP, hK, hD0, hE⟩ := hv
  have hx := B0.exec
  have hb := B0.bytes
  have hr := B0.returns
  have hts0 := atoms_spec (ws := ws_u yX9_hasRoom cX9_hasRoom 2 (some .boolean)) B0.pre
  have hts : ∀ w ∈ gT, w.before _ s = true := fun w h => hts0 w (List.mem_cons_of_mem _ h)
  have hown : s.vm.findClass RX9 = some m.cls := findClass_of_methodNamed B0.named
  have hlocks := B0.notSynchronized
  subst hsz
  have hD := hD0.self (sz := s.heap.size)
  generalize hAe : va_A ws s.heap.size = A at hD ⊢
  have hA : ∀ q : Nat, s.heap.size ≤ q → A q := fun q h => by rw [← hAe]; exact Or.inr h
  have hw : tW (dC, dI) tys κ B A s ws s.heap [] := ⟨hK, hP, hD, va_S.rf, hT⟩
  have hM : Sm [] [] κ ws ws := Sm.rf
  clear hP hK hD hD0 hts0
  have hl := lv_entry ([.ref a0, .int a1]) (n := 2) (Nat.le_of_ble_eq_true rfl)
  rw [lg_entry_eq]
  generalize (lg_sl ([.ref a0, .int a1]) ++ List.replicate (2 - (lg_sl ([.ref a0, .int a1])).length) Slot.unset).toArray = ls at hl ⊢
  have hl : lv_has ls 2 [(0, .ref a0), (1, .int a1)] := hl
  refine t_start (fun QQ hQ => ?_)
  refine lv_aload_n hx hb dX9_hasRoom_0 rfl (lv_at hl 0 rfl) ?_
  refine t_geti (ci := 9) (C := RX9) (T := TX9) (N := 4) hx hb hts iX9 hown hw k_a0 rfl rfl rfl 1 (by decide) (hts _ tw_37) (fun _ h9 => h9) dX9_hasRoom_1 rfl (fun v1 l_v1 h_v1 f_a0_X9_1 => ?_)
  have l_v1 : 0 ≤ v1.toInt := l_v1
  have h_v1 : v1.toInt ≤ 400 := h_v1
  refine lv_iload_n hx hb dX9_hasRoom_4 rfl (lv_at hl 1 rfl) ?_
  refine lv_iadd hx hb dX9_hasRoom_5 ?_
  refine lv_topi (fun v5 e_v5 => ?_)
  have e_v5 : v5.toInt = v1.toInt + a1.toInt := ad_i e_v5 rfl rfl (by omega) (by omega)
  refine lv_sipush (v := 400) hx hb dX9_hasRoom_6 (by decide) ?_
  refine lv_icmp_gt (tgt := 16) hx hb dX9_hasRoom_9 (by decide) (fun c_9 => ?_) (fun c_9 => ?_)
  · simp only [fa_lt, fa_le, fa_eq, li_400] at c_9
    refine lv_iconst (v := 0) hx hb dX9_hasRoom_16 (by decide) ?_
    rw [hQ]
    refine W.widen (k := 0) (n := 0) (Nat.le_refl _) (Nat.le_refl _) ?_
    exact W.zret (v := 0) hx hb hr rfl (fun t ht hW => ⟨⟨0, ws, rfl, ⟨(by decide), (by decide), hw.2.2.2.2, hM⟩, by rw [ht]; exact hw.2.1, va_K.moved hW.alike hw.1, hw.2.2.1⟩, hw.2.2.2.1.F ht⟩) hw.2.2.2.1.2.2 dX9_hasRoom_17
  · simp only [fa_lt, fa_le, fa_eq, li_400] at c_9
    refine lv_iconst (v := 1) hx hb dX9_hasRoom_12 (by decide) ?_
    refine lv_goto (tgt := 17) hx hb dX9_hasRoom_13 (by decide) ?_
    rw [hQ]
    refine W.widen (k := 0) (n := 0) (Nat.le_refl _) (Nat.le_refl _) ?_
    exact W.zret (v := 1) hx hb hr rfl (fun t ht hW => ⟨⟨1, ws, rfl, ⟨(by decide), (by decide), hw.2.2.2.2, hM⟩, by rw [ht]; exact hw.2.1, va_K.moved hW.alike hw.1, hw.2.2.1⟩, hw.2.2.2.1.F ht⟩) hw.2.2.2.1.2.2 dX9_hasRoom_17
set_option maxHeartbeats 4000000 in
set_option maxRecDepth 100000 in
theorem t_X11_feed (l : Launch) (dC : Nat → ClassId) (dI : Nat → Nat → Nat) (tys : List (ClassId × FieldType)) (κ : tK) (B : Nat) (ws : va_W) (hT : Ty κ tys B ws) (a0 : Nat) (k_a0 : κ a0 = some 11) (a1 : Int32) (a2 : Int32) (a3 : Int32) (a4 : Int32) (a5 : Int32) (sz : Nat) : Met l yX11_feed (ws_u yX11_feed cX11_feed 6 (some .int)) ({ frames := 1, cells := 0, slots := 0, locals := 22 }) (va_Pc [.ref a0, .int a1, .int a2, .int a3, .int a4, .int a5] (cPre (dC, dI) tys ws sz)) (va_Qi (fun (r : Int32) (w : va_W) => (-1) ≤ r.toInt ∧ r.toInt ≤ 400 ∧ Ty κ tys B w ∧ Sm [(9, 1)] [49] κ ws w) (fun w t => cPost (dC, dI) tys w (va_A ws sz) t) (va_A ws sz)) 0 0 (va_A ws sz) := by
  refine Met.ofW (cc := cX11_feed) (maxL := 6) (ret := (some .int)) (by decide) rfl ?_
  intro p e s m args below meth c s₁ B0 hml hv
  obtain ⟨rfl, hsz, hP, hK, hD0, hE⟩ := hv
  have hx := B0.exec
  have hb := B0.bytes
  have hr := B0.returns
  have hts0 := atoms_spec (ws := ws_u yX11_feed cX11_feed 6 (some .int)) B0.pre
  have hts : ∀ w ∈ gT, w.before _ s = true := fun w h => hts0 w (List.mem_cons_of_mem _ h)
  have hown : s.vm.findClass RX11 = some m.cls := findClass_of_methodNamed B0.named
  have hlocks := B0.notSynchronized
  subst hsz
  have hD := hD0.self (sz := s.heap.size)
  generalize hAe : va_A ws s.heap.size = A at hD ⊢
  have hA : ∀ q : Nat, s.heap.size ≤ q → A q := fun q h => by rw [← hAe]; exact Or.inr h
  have hw : tW (dC, dI) tys κ B A s ws s.heap [] := ⟨hK, hP, hD, va_S.rf, hT⟩
  have hM : Sm [(9, 1)] [49] κ ws ws := Sm.rf
  clear hP hK hD hD0 hts0
  have l_a1 := i32_lo a1
  have h_a1 := i32_hi a1
  have l_a2 := i32_lo a2
  have h_a2 := i32_hi a2
  have l_a3 := i32_lo a3
  have h_a3 := i32_hi a3
  have l_a4 := i32_lo a4
  have h_a4 := i32_hi a4
  have l_a5 := i32_lo a5
  have h_a5 := i32_hi a5
  have hl := lv_entry ([.ref a0, .int a1, .int a2, .int a3, .int a4, .int a5]) (n := 6) (Nat.le_of_ble_eq_true rfl)
  rw [lg_entry_eq]
  generalize (lg_sl ([.ref a0, .int a1, .int a2, .int a3, .int a4, .int a5]) ++ List.replicate (6 - (lg_sl ([.ref a0, .int a1, .int a2, .int a3, .int a4, .int a5])).length) Slot.unset).toArray = ls at hl ⊢
  have hl : lv_has ls 6 [(0, .ref a0), (1, .int a1), (2, .int a2), (3, .int a3), (4, .int a4), (5, .int a5)] := hl
  refine t_start (fun QQ hQ => ?_)
  refine lv_aload_n hx hb dX11_feed_0 rfl (lv_at hl 0 rfl) ?_
  refine t_getr (k1 := 9) (ci := 11) (C := RX11) (T := TX11) (N := 12) hx hb hts iX11 hown hw k_a0 rfl rfl rfl 0 (by decide) (hts _ tw_423) (fun _ h9 => h9) dX11_feed_1 rfl (fun v1 k_v1 f_a0_X11_0 => ?_)
  refine lv_bipush (v := 20) hx hb dX11_feed_4 (by decide) ?_
  refine t_calli (va_runV (As := [.int 20]) (rest := []) ⟨hx, hb, hml, hown, hts⟩ (t_X9_hasRoom l dC dI tys κ B ws hw.2.2.2.2 v1 k_v1 20 (by decide) (by decide) s.heap.size) (cwV 1 hts (gUV tw_464 tw_465 tw_466 tw_2 tw_467) rfl rfl rfl (by decide +kernel) ⟨(Nat.le_of_ble_eq_true rfl), (Nat.le_of_ble_eq_true rfl)⟩) ⟨cPre.blind, t_recv hw (ci := 9) k_v1 rfl rfl, cPre.use hw.2.1 hw.1 hw.2.2.1 hE⟩ rfl rfl hl.1 rfl (lv_room (Nat.le_of_ble_eq_true rfl)) dX11_feed_6 ⟨(Nat.le_of_ble_eq_true rfl), (Nat.le_of_ble_eq_true rfl)⟩) hw hA (fun _ _ h => h.2.2.1) (fun v6 w_1 H locs hp hw => ?_)
  obtain ⟨l_v6, h_v6, _, hm⟩ := hp
  have hM := hM.trans hm (by decide) (by decide)
  have f_a0_X11_0 := hm.1 _ _ _ _ f_a0_X11_0 (by decide)
  refine lv_if_ne (tgt := 14) hx hb dX11_feed_9 (by decide) (fun c_9 => ?_) (fun c_9 => ?_)
  · simp only [fa_lt, fa_le, fa_eq, li_0] at c_9
    refine lv_aload_n hx hb dX11_feed_14 rfl (lv_at hl 0 rfl) ?_
    refine t_getk (ci := 11) (C := RX11) (T := TX11) (N := 12) hx hb hts iX11 hown hw rfl 0 (by decide) (hts _ tw_423) (fun _ h9 => h9) dX11_feed_15 f_a0_X11_0 ?_
    refine lv_iload_n hx hb dX11_feed_18 rfl (lv_at hl 1 rfl) ?_
    refine t_callv (va_runV (As := [.int a1]) (rest := []) ⟨hx, hb, hml, hown, hts⟩ (t_X9_add l dC dI tys κ B w_1 hw.2.2.2.2 v1 k_v1 a1 H.size) (cwV 1 hts (gUV tw_468 tw_469 tw_470 tw_2 tw_471) rfl rfl rfl (by decide +kernel) ⟨(Nat.le_of_ble_eq_true rfl), (Nat.le_of_ble_eq_true rfl)⟩) ⟨cPre.blind, t_recv hw (ci := 9) k_v1 rfl rfl, cPre.use hw.2.1 hw.1 hw.2.2.1 hE⟩ rfl rfl hl.1 rfl (lv_room (Nat.le_of_ble_eq_true rfl)) dX11_feed_19 ⟨(Nat.le_of_ble_eq_true rfl), (Nat.le_of_ble_eq_true rfl)⟩) hw hA (fun _ h => h.1) (fun w_2 H locs hp hw => ?_)
    obtain ⟨_, hm⟩ := hp
    have hM := hM.trans hm (by decide) (by decide)
    have f_a0_X11_0 := hm.1 _ _ _ _ f_a0_X11_0 (by decide)
    refine lv_aload_n hx hb dX11_feed_22 rfl (lv_at hl 0 rfl) ?_
    refine t_getk (ci := 11) (C := RX11) (T := TX11) (N := 12) hx hb hts iX11 hown hw rfl 0 (by decide) (hts _ tw_423) (fun _ h9 => h9) dX11_feed_23 f_a0_X11_0 ?_
    refine lv_iload_n hx hb dX11_feed_26 rfl (lv_at hl 2 rfl) ?_
    refine t_callv (va_runV (As := [.int a2]) (rest := []) ⟨hx, hb, hml, hown, hts⟩ (t_X9_add l dC dI tys κ B w_2 hw.2.2.2.2 v1 k_v1 a2 H.size) (cwV 1 hts (gUV tw_468 tw_469 tw_470 tw_2 tw_471) rfl rfl rfl (by decide +kernel) ⟨(Nat.le_of_ble_eq_true rfl), (Nat.le_of_ble_eq_true rfl)⟩) ⟨cPre.blind, t_recv hw (ci := 9) k_v1 rfl rfl, cPre.use hw.2.1 hw.1 hw.2.2.1 hE⟩ rfl rfl hl.1 rfl (lv_room (Nat.le_of_ble_eq_true rfl)) dX11_feed_27 ⟨(Nat.le_of_ble_eq_true rfl), (Nat.le_of_ble_eq_true rfl)⟩) hw hA (fun _ h => h.1) (fun w_3 H locs hp hw => ?_)
    obtain ⟨_, hm⟩ := hp
    have hM := hM.trans hm (by decide) (by decide)
    have f_a0_X11_0 := hm.1 _ _ _ _ f_a0_X11_0 (by decide)
    refine lv_aload_n hx hb dX11_feed_30 rfl (lv_at hl 0 rfl) ?_
    refine t_getk (ci := 11) (C := RX11) (T := TX11) (N := 12) hx hb hts iX11 hown hw rfl 0 (by decide) (hts _ tw_423) (fun _ h9 => h9) dX11_feed_31 f_a0_X11_0 ?_
    refine lv_iload_n hx hb dX11_feed_34 rfl (lv_at hl 3 rfl) ?_
    refine t_callv (va_runV (As := [.int a3]) (rest := []) ⟨hx, hb, hml, hown, hts⟩ (t_X9_add l dC dI tys κ B w_3 hw.2.2.2.2 v1 k_v1 a3 H.size) (cwV 1 hts (gUV tw_468 tw_469 tw_470 tw_2 tw_471) rfl rfl rfl (by decide +kernel) ⟨(Nat.le_of_ble_eq_true rfl), (Nat.le_of_ble_eq_true rfl)⟩) ⟨cPre.blind, t_recv hw (ci := 9) k_v1 rfl rfl, cPre.use hw.2.1 hw.1 hw.2.2.1 hE⟩ rfl rfl hl.1 rfl (lv_room (Nat.le_of_ble_eq_true rfl)) dX11_feed_35 ⟨(Nat.le_of_ble_eq_true rfl), (Nat.le_of_ble_eq_true rfl)⟩) hw hA (fun _ h => h.1) (fun w_4 H locs hp hw => ?_)
    obtain ⟨_, hm⟩ := hp
    have hM := hM.trans hm (by decide) (by decide)
    have f_a0_X11_0 := hm.1 _ _ _ _ f_a0_X11_0 (by decide)
    refine lv_aload_n hx hb dX11_feed_38 rfl (lv_at hl 0 rfl) ?_
    refine t_getk (ci := 11) (C := RX11) (T := TX11) (N := 12) hx hb hts iX11 hown hw rfl 0 (by decide) (hts _ tw_423) (fun _ h9 => h9) dX11_feed_39 f_a0_X11_0 ?_
    refine lv_iload hx hb dX11_feed_42 (lv_at hl 4 rfl) ?_
    refine t_callv (va_runV (As := [.int a4]) (rest := []) ⟨hx, hb, hml, hown, hts⟩ (t_X9_add l dC dI tys κ B w_4 hw.2.2.2.2 v1 k_v1 a4 H.size) (cwV 1 hts (gUV tw_468 tw_469 tw_470 tw_2 tw_471) rfl rfl rfl (by decide +kernel) ⟨(Nat.le_of_ble_eq_true rfl), (Nat.le_of_ble_eq_true rfl)⟩) ⟨cPre.blind, t_recv hw (ci := 9) k_v1 rfl rfl, cPre.use hw.2.1 hw.1 hw.2.2.1 hE⟩ rfl rfl hl.1 rfl (lv_room (Nat.le_of_ble_eq_true rfl)) dX11_feed_44 ⟨(Nat.le_of_ble_eq_true rfl), (Nat.le_of_ble_eq_true rfl)⟩) hw hA (fun _ h => h.1) (fun w_5 H locs hp hw => ?_)
    obtain ⟨_, hm⟩ := hp
    have hM := hM.trans hm (by decide) (by decide)
    have f_a0_X11_0 := hm.1 _ _ _ _ f_a0_X11_0 (by decide)
    refine lv_aload_n hx hb dX11_feed_47 rfl (lv_at hl 0 rfl) ?_
    refine t_getk (ci := 11) (C := RX11) (T := TX11) (N := 12) hx hb hts iX11 hown hw rfl 0 (by decide) (hts _ tw_423) (fun _ h9 => h9) dX11_feed_48 f_a0_X11_0 ?_
    refine lv_iload hx hb dX11_feed_51 (lv_at hl 5 rfl) ?_
    refine t_callv (va_runV (As := [.int a5]) (rest := []) ⟨hx, hb, hml, hown, hts⟩ (t_X9_add l dC dI tys κ B w_5 hw.2.2.2.2 v1 k_v1 a5 H.size) (cwV 1 hts (gUV tw_468 tw_469 tw_470 tw_2 tw_471) rfl rfl rfl (by decide +kernel) ⟨(Nat.le_of_ble_eq_true rfl), (Nat.le_of_ble_eq_true rfl)⟩) ⟨cPre.blind, t_recv hw (ci := 9) k_v1 rfl rfl, cPre.use hw.2.1 hw.1 hw.2.2.1 hE⟩ rfl rfl hl.1 rfl (lv_room (Nat.le_of_ble_eq_true rfl)) dX11_feed_53 ⟨(Nat.le_of_ble_eq_true rfl), (Nat.le_of_ble_eq_true rfl)⟩) hw hA (fun _ h => h.1) (fun w_6 H locs hp hw => ?_)
    obtain ⟨_, hm⟩ := hp
    have hM := hM.trans hm (by decide) (by decide)
    have f_a0_X11_0 := hm.1 _ _ _ _ f_a0_X11_0 (by decide)
    refine lv_aload_n hx hb dX11_feed_56 rfl (lv_at hl 0 rfl) ?_
    refine t_getk (ci := 11) (C := RX11) (T := TX11) (N := 12) hx hb hts iX11 hown hw rfl 0 (by decide) (hts _ tw_423) (fun _ h9 => h9) dX11_feed_57 f_a0_X11_0 ?_
    refine t_geti (ci := 9) (C := RX9) (T := TX9) (N := 4) hx hb hts iX9 hown hw k_v1 rfl rfl rfl 1 (by decide) (hts _ tw_38) (fun _ h9 => h9) dX11_feed_60 rfl (fun v60 l_v60 h_v60 f_v1_X9_1 => ?_)
    have l_v60 : 0 ≤ v60.toInt := l_v60
    have h_v60 : v60.toInt ≤ 400 := h_v60
    rw [hQ]
    refine W.widen (k := 0) (n := 0) (Nat.le_refl _) (Nat.le_refl _) ?_
    exact W.iret (v := v60) hx hb hr (fun t ht hW => ⟨⟨v60, w_6, rfl, ⟨(by omega), (by omega), hw.2.2.2.2, hM⟩, by rw [ht]; exact hw.2.1, va_K.moved hW.alike hw.1, hw.2.2.1⟩, hw.2.2.2.1.F ht⟩) hw.2.2.2.1.2.2 dX11_feed_63
  · simp only [fa_lt, fa_le, fa_eq, li_0] at c_9
    refine lv_iconst (v := (-1)) hx hb dX11_feed_12 (by decide) ?_
    rw [hQ]
    refine W.widen (k := 0) (n := 0) (Nat.le_refl _) (Nat.le_refl _) ?_
    exact W.iret (v := (-1)) hx hb hr (fun t ht hW => ⟨⟨(-1), w_1, rfl, ⟨(by decide), (by decide), hw.2.2.2.2, hM⟩, by rw [ht]; exact hw.2.1, va_K.moved hW.alike hw.1, hw.2.2.1⟩, hw.2.2.2.1.F ht⟩) hw.2.2.2.1.2.2 dX11_feed_13
