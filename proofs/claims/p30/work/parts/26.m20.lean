theorem ts_1_13 : Cond.selects "BoyBishop" ⟨"BoyBishop", "canBeVisited", "(I)Z"⟩ ⟨"BoyBishop", "canBeVisited", "(I)Z"⟩ ∈ gT := gT_in (List.mem_append_left _ (List.mem_map.mpr ⟨(⟨"BoyBishop", "canBeVisited", "(I)Z"⟩, 12), (List.mem_append_right _ (List.mem_append_left _ (List.mem_of_getElem? (i := 13) rfl))), rfl⟩)) rfl
theorem ts_2_13 : Cond.selects "BoyBishop$Days" ⟨"BoyBishop$Days", "drawVoices", "(ILBoyBishop$Standing;I)V"⟩ ⟨"BoyBishop$Days", "drawVoices", "(ILBoyBishop$Standing;I)V"⟩ ∈ gT := gT_in (List.mem_append_left _ (List.mem_map.mpr ⟨(⟨"BoyBishop$Days", "drawVoices", "(ILBoyBishop$Standing;I)V"⟩, 4), (List.mem_append_right _ (List.mem_append_right _ (List.mem_append_left _ (List.mem_of_getElem? (i := 13) rfl)))), rfl⟩)) rfl
theorem ts_2_14 : Cond.selects "BoyBishop$Days" ⟨"BoyBishop$Days", "draw", "()J"⟩ ⟨"BoyBishop$Days", "draw", "()J"⟩ ∈ gT := gT_in (List.mem_append_left _ (List.mem_map.mpr ⟨(⟨"BoyBishop$Days", "draw", "()J"⟩, 4), (List.mem_append_right _ (List.mem_append_right _ (List.mem_append_left _ (List.mem_of_getElem? (i := 14) rfl)))), rfl⟩)) rfl
theorem tw_1071 : (Jvm.Cond.methodLink "BoyBishop" (339 : Nat) ({ cls := "BoyBishop$Days", name := "beginWinters", desc := "(I)V" } : Jvm.MethodName)) ∈ gT := gT_in (List.mem_append_right _ (List.mem_append_right _ (List.mem_append_right _ (List.mem_append_right _ (List.mem_append_right _ (List.mem_append_left _ (List.mem_of_getElem? (i := 111) rfl))))))) rfl
theorem tw_1072 : (Jvm.Cond.instanceMethod ({ cls := "BoyBishop$Days", name := "beginWinters", desc := "(I)V" } : Jvm.MethodName)) ∈ gT := gT_in (List.mem_append_right _ (List.mem_append_right _ (List.mem_append_right _ (List.mem_append_right _ (List.mem_append_right _ (List.mem_append_left _ (List.mem_of_getElem? (i := 112) rfl))))))) rfl
theorem tw_1073 : (Jvm.Cond.selects "BoyBishop$Days" ({ cls := "BoyBishop$Days", name := "beginWinters", desc := "(I)V" } : Jvm.MethodName) ({ cls := "BoyBishop$Days", name := "beginWinters", desc := "(I)V" } : Jvm.MethodName)) ∈ gT := gT_in (List.mem_append_right _ (List.mem_append_right _ (List.mem_append_right _ (List.mem_append_right _ (List.mem_append_right _ (List.mem_append_left _ (List.mem_of_getElem? (i := 113) rfl))))))) rfl
theorem tw_1074 : (Jvm.Cond.code ({ cls := "BoyBishop$Days", name := "beginWinters", desc := "(I)V" } : Jvm.MethodName) prog_5_method_3_code (2 : Nat) (Option.none : Option Jvm.ClassFile.FieldType)) ∈ gT := gT_in (List.mem_append_right _ (List.mem_append_right _ (List.mem_append_right _ (List.mem_append_right _ (List.mem_append_right _ (List.mem_append_left _ (List.mem_of_getElem? (i := 114) rfl))))))) rfl
theorem tw_1075 : (Jvm.Cond.methodLink "BoyBishop" (342 : Nat) ({ cls := "BoyBishop$Days", name := "passWinter", desc := "(LBoyBishop$Choir;LBoyBishop$Standing;LBoyBishop$Rule;II)V" } : Jvm.MethodName)) ∈ gT := gT_in (List.mem_append_right _ (List.mem_append_right _ (List.mem_append_right _ (List.mem_append_right _ (List.mem_append_right _ (List.mem_append_left _ (List.mem_of_getElem? (i := 115) rfl))))))) rfl
theorem tw_1076 : (Jvm.Cond.instanceMethod ({ cls := "BoyBishop$Days", name := "passWinter", desc := "(LBoyBishop$Choir;LBoyBishop$Standing;LBoyBishop$Rule;II)V" } : Jvm.MethodName)) ∈ gT := gT_in (List.mem_append_right _ (List.mem_append_right _ (List.mem_append_right _ (List.mem_append_right _ (List.mem_append_right _ (List.mem_append_left _ (List.mem_of_getElem? (i := 116) rfl))))))) rfl
theorem tw_1077 : (Jvm.Cond.selects "BoyBishop$Days" ({ cls := "BoyBishop$Days", name := "passWinter", desc := "(LBoyBishop$Choir;LBoyBishop$Standing;LBoyBishop$Rule;II)V" } : Jvm.MethodName) ({ cls := "BoyBishop$Days", name := "passWinter", desc := "(LBoyBishop$Choir;LBoyBishop$Standing;LBoyBishop$Rule;II)V" } : Jvm.MethodName)) ∈ gT := gT_in (List.mem_append_right _ (List.mem_append_right _ (List.mem_append_right _ (List.mem_append_right _ (List.mem_append_right _ (List.mem_append_left _ (List.mem_of_getElem? (i := 117) rfl))))))) rfl
theorem tw_1078 : (Jvm.Cond.code ({ cls := "BoyBishop$Days", name := "passWinter", desc := "(LBoyBishop$Choir;LBoyBishop$Standing;LBoyBishop$Rule;II)V" } : Jvm.MethodName) prog_5_method_4_code (7 : Nat) (Option.none : Option Jvm.ClassFile.FieldType)) ∈ gT := gT_in (List.mem_append_right _ (List.mem_append_right _ (List.mem_append_right _ (List.mem_append_right _ (List.mem_append_right _ (List.mem_append_left _ (List.mem_of_getElem? (i := 118) rfl))))))) rfl
theorem tw_1079 : (Jvm.Cond.methodLink "BoyBishop$Days" (51 : Nat) ({ cls := "BoyBishop$Days", name := "drawVoices", desc := "(ILBoyBishop$Standing;I)V" } : Jvm.MethodName)) ∈ gT := gT_in (List.mem_append_right _ (List.mem_append_right _ (List.mem_append_right _ (List.mem_append_right _ (List.mem_append_right _ (List.mem_append_left _ (List.mem_of_getElem? (i := 119) rfl))))))) rfl
theorem tw_1081 : (Jvm.Cond.instanceMethod ({ cls := "BoyBishop$Days", name := "drawVoices", desc := "(ILBoyBishop$Standing;I)V" } : Jvm.MethodName)) ∈ gT := gT_in (List.mem_append_right _ (List.mem_append_right _ (List.mem_append_right _ (List.mem_append_right _ (List.mem_append_right _ (List.mem_append_left _ (List.mem_of_getElem? (i := 121) rfl))))))) rfl
theorem tw_1082 : (Jvm.Cond.code ({ cls := "BoyBishop$Days", name := "drawVoices", desc := "(ILBoyBishop$Standing;I)V" } : Jvm.MethodName) prog_5_method_5_code (5 : Nat) (Option.none : Option Jvm.ClassFile.FieldType)) ∈ gT := gT_in (List.mem_append_right _ (List.mem_append_right _ (List.mem_append_right _ (List.mem_append_right _ (List.mem_append_right _ (List.mem_append_left _ (List.mem_of_getElem? (i := 122) rfl))))))) rfl
theorem tw_1083 : (Jvm.Cond.methodLink "BoyBishop$Days" (72 : Nat) ({ cls := "BoyBishop$Days", name := "draw", desc := "()J" } : Jvm.MethodName)) ∈ gT := gT_in (List.mem_append_right _ (List.mem_append_right _ (List.mem_append_right _ (List.mem_append_right _ (List.mem_append_right _ (List.mem_append_left _ (List.mem_of_getElem? (i := 123) rfl))))))) rfl
theorem tw_1085 : (Jvm.Cond.instanceMethod ({ cls := "BoyBishop$Days", name := "draw", desc := "()J" } : Jvm.MethodName)) ∈ gT := gT_in (List.mem_append_right _ (List.mem_append_right _ (List.mem_append_right _ (List.mem_append_right _ (List.mem_append_right _ (List.mem_append_left _ (List.mem_of_getElem? (i := 125) rfl))))))) rfl
theorem tw_1086 : (Jvm.Cond.code ({ cls := "BoyBishop$Days", name := "draw", desc := "()J" } : Jvm.MethodName) prog_5_method_6_code (1 : Nat) (Option.some Jvm.ClassFile.FieldType.long)) ∈ gT := gT_in (List.mem_append_right _ (List.mem_append_right _ (List.mem_append_right _ (List.mem_append_right _ (List.mem_append_right _ (List.mem_append_left _ (List.mem_of_getElem? (i := 126) rfl))))))) rfl
theorem tw_1087 : (Jvm.Cond.constantLong "BoyBishop$Days" (78 : Nat) (1103515245 : Int64)) ∈ gT := gT_in (List.mem_append_right _ (List.mem_append_right _ (List.mem_append_right _ (List.mem_append_right _ (List.mem_append_right _ (List.mem_append_left _ (List.mem_of_getElem? (i := 127) rfl))))))) rfl
theorem tw_1088 : (Jvm.Cond.constantLong "BoyBishop$Days" (80 : Nat) (12345 : Int64)) ∈ gT := gT_in (List.mem_append_right _ (List.mem_append_right _ (List.mem_append_right _ (List.mem_append_right _ (List.mem_append_right _ (List.mem_append_left _ (List.mem_of_getElem? (i := 128) rfl))))))) rfl
theorem tw_1089 : (Jvm.Cond.constantLong "BoyBishop$Days" (82 : Nat) (2147483648 : Int64)) ∈ gT := gT_in (List.mem_append_right _ (List.mem_append_right _ (List.mem_append_right _ (List.mem_append_right _ (List.mem_append_right _ (List.mem_append_left _ (List.mem_of_getElem? (i := 129) rfl))))))) rfl
theorem tw_1090 : (Jvm.Cond.constantLong "BoyBishop$Days" (84 : Nat) (65536 : Int64)) ∈ gT := gT_in (List.mem_append_right _ (List.mem_append_right _ (List.mem_append_right _ (List.mem_append_right _ (List.mem_append_right _ (List.mem_append_left _ (List.mem_of_getElem? (i := 130) rfl))))))) rfl
theorem tw_1091 : (Jvm.Cond.constantLong "BoyBishop$Days" (76 : Nat) (100 : Int64)) ∈ gT := gT_in (List.mem_append_right _ (List.mem_append_right _ (List.mem_append_right _ (List.mem_append_right _ (List.mem_append_right _ (List.mem_append_left _ (List.mem_of_getElem? (i := 131) rfl))))))) rfl
theorem tw_1092 : (Jvm.Cond.methodLink "BoyBishop$Days" (55 : Nat) ({ cls := "BoyBishop$Days", name := "pass", desc := "(LBoyBishop$Choir;LBoyBishop$Standing;LBoyBishop$Rule;)Z" } : Jvm.MethodName)) ∈ gT := gT_in (List.mem_append_right _ (List.mem_append_right _ (List.mem_append_right _ (List.mem_append_right _ (List.mem_append_right _ (List.mem_append_left _ (List.mem_of_getElem? (i := 132) rfl))))))) rfl
theorem tw_1093 : (Jvm.Cond.methodLink "BoyBishop$Days" (59 : Nat) ({ cls := "BoyBishop$Standing", name := "brokenVoices", desc := "(I)I" } : Jvm.MethodName)) ∈ gT := gT_in (List.mem_append_right _ (List.mem_append_right _ (List.mem_append_right _ (List.mem_append_right _ (List.mem_append_right _ (List.mem_append_left _ (List.mem_of_getElem? (i := 133) rfl))))))) rfl
theorem tw_1094 : (Jvm.Cond.methodLink "BoyBishop$Days" (63 : Nat) ({ cls := "java/lang/Integer", name := "bitCount", desc := "(I)I" } : Jvm.MethodName)) ∈ gT := gT_in (List.mem_append_right _ (List.mem_append_right _ (List.mem_append_right _ (List.mem_append_right _ (List.mem_append_right _ (List.mem_append_left _ (List.mem_of_getElem? (i := 134) rfl))))))) rfl
theorem tw_240 : (Jvm.Cond.fieldLink "BoyBishop$Days" (68 : Nat) "BoyBishop$Standing" "voice" "[I") ∈ gT := gT_in (List.mem_append_right _ (List.mem_append_right _ (List.mem_append_left _ (List.mem_of_getElem? (i := 0) rfl)))) rfl
theorem tw_348 : (Jvm.Cond.fieldLink "BoyBishop" (252 : Nat) "BoyBishop$Poll" "choice" "[I") ∈ gT := gT_in (List.mem_append_right _ (List.mem_append_right _ (List.mem_append_left _ (List.mem_of_getElem? (i := 108) rfl)))) rfl
theorem tw_350 : (Jvm.Cond.fieldLink "BoyBishop" (255 : Nat) "BoyBishop$Poll" "tally" "[I") ∈ gT := gT_in (List.mem_append_right _ (List.mem_append_right _ (List.mem_append_left _ (List.mem_of_getElem? (i := 110) rfl)))) rfl
theorem tw_380 : (Jvm.Cond.fieldLink "BoyBishop$Days" (38 : Nat) "BoyBishop$Days" "x" "J") ∈ gT := gT_in (List.mem_append_right _ (List.mem_append_right _ (List.mem_append_left _ (List.mem_of_getElem? (i := 140) rfl)))) rfl
theorem tw_381 : (Jvm.Cond.fieldLink "BoyBishop$Days" (42 : Nat) "BoyBishop$Days" "chosen" "I") ∈ gT := gT_in (List.mem_append_right _ (List.mem_append_right _ (List.mem_append_left _ (List.mem_of_getElem? (i := 141) rfl)))) rfl
theorem tw_382 : (Jvm.Cond.fieldLink "BoyBishop" (345 : Nat) "BoyBishop$Days" "chosen" "I") ∈ gT := gT_in (List.mem_append_right _ (List.mem_append_right _ (List.mem_append_left _ (List.mem_of_getElem? (i := 142) rfl)))) rfl
theorem tw_383 : (Jvm.Cond.fieldLink "BoyBishop$Days" (43 : Nat) "BoyBishop$Days" "broken" "I") ∈ gT := gT_in (List.mem_append_right _ (List.mem_append_right _ (List.mem_append_left _ (List.mem_of_getElem? (i := 143) rfl)))) rfl
theorem tw_384 : (Jvm.Cond.fieldLink "BoyBishop" (346 : Nat) "BoyBishop$Days" "broken" "I") ∈ gT := gT_in (List.mem_append_right _ (List.mem_append_right _ (List.mem_append_left _ (List.mem_of_getElem? (i := 144) rfl)))) rfl
theorem tw_78 : (Jvm.Cond.fieldLink "BoyBishop$Days" (46 : Nat) "BoyBishop$Choir" "boys" "I") ∈ gT := gT_in (List.mem_append_right _ (List.mem_append_left _ (List.mem_of_getElem? (i := 78) rfl))) rfl
theorem tw_845 : (Jvm.Cond.methodLink "BoyBishop" (216 : Nat) ({ cls := "BoyBishop", name := "canBeVisited", desc := "(I)Z" } : Jvm.MethodName)) ∈ gT := gT_in (List.mem_append_right _ (List.mem_append_right _ (List.mem_append_right _ (List.mem_append_right _ (List.mem_append_left _ (List.mem_of_getElem? (i := 125) rfl)))))) rfl
theorem tw_847 : (Jvm.Cond.instanceMethod ({ cls := "BoyBishop", name := "canBeVisited", desc := "(I)Z" } : Jvm.MethodName)) ∈ gT := gT_in (List.mem_append_right _ (List.mem_append_right _ (List.mem_append_right _ (List.mem_append_right _ (List.mem_append_left _ (List.mem_of_getElem? (i := 127) rfl)))))) rfl
theorem tw_848 : (Jvm.Cond.code ({ cls := "BoyBishop", name := "canBeVisited", desc := "(I)Z" } : Jvm.MethodName) prog_1_method_14_code (3 : Nat) (Option.some Jvm.ClassFile.FieldType.boolean)) ∈ gT := gT_in (List.mem_append_right _ (List.mem_append_right _ (List.mem_append_right _ (List.mem_append_right _ (List.mem_append_left _ (List.mem_of_getElem? (i := 128) rfl)))))) rfl
theorem tw_854 : (Jvm.Cond.methodLink "BoyBishop" (219 : Nat) ({ cls := "BoyBishop$Standing", name := "fetch", desc := "(I)I" } : Jvm.MethodName)) ∈ gT := gT_in (List.mem_append_right _ (List.mem_append_right _ (List.mem_append_right _ (List.mem_append_right _ (List.mem_append_left _ (List.mem_of_getElem? (i := 134) rfl)))))) rfl
theorem tw_855 : (Jvm.Cond.instanceMethod ({ cls := "BoyBishop$Standing", name := "fetch", desc := "(I)I" } : Jvm.MethodName)) ∈ gT := gT_in (List.mem_append_right _ (List.mem_append_right _ (List.mem_append_right _ (List.mem_append_right _ (List.mem_append_left _ (List.mem_of_getElem? (i := 135) rfl)))))) rfl
theorem tw_856 : (Jvm.Cond.selects "BoyBishop$Standing" ({ cls := "BoyBishop$Standing", name := "fetch", desc := "(I)I" } : Jvm.MethodName) ({ cls := "BoyBishop$Standing", name := "fetch", desc := "(I)I" } : Jvm.MethodName)) ∈ gT := gT_in (List.mem_append_right _ (List.mem_append_right _ (List.mem_append_right _ (List.mem_append_right _ (List.mem_append_left _ (List.mem_of_getElem? (i := 136) rfl)))))) rfl
theorem tw_857 : (Jvm.Cond.code ({ cls := "BoyBishop$Standing", name := "fetch", desc := "(I)I" } : Jvm.MethodName) prog_10_method_10_code (4 : Nat) (Option.some Jvm.ClassFile.FieldType.int)) ∈ gT := gT_in (List.mem_append_right _ (List.mem_append_right _ (List.mem_append_right _ (List.mem_append_right _ (List.mem_append_left _ (List.mem_of_getElem? (i := 137) rfl)))))) rfl
theorem tw_945 : (Jvm.Cond.methodLink "BoyBishop" (271 : Nat) ({ cls := "BoyBishop$Poll", name := "fewestToWinOver", desc := "(I)I" } : Jvm.MethodName)) ∈ gT := gT_in (List.mem_append_right _ (List.mem_append_right _ (List.mem_append_right _ (List.mem_append_right _ (List.mem_append_left _ (List.mem_of_getElem? (i := 225) rfl)))))) rfl
theorem tw_946 : (Jvm.Cond.instanceMethod ({ cls := "BoyBishop$Poll", name := "fewestToWinOver", desc := "(I)I" } : Jvm.MethodName)) ∈ gT := gT_in (List.mem_append_right _ (List.mem_append_right _ (List.mem_append_right _ (List.mem_append_right _ (List.mem_append_left _ (List.mem_of_getElem? (i := 226) rfl)))))) rfl
theorem tw_947 : (Jvm.Cond.selects "BoyBishop$Poll" ({ cls := "BoyBishop$Poll", name := "fewestToWinOver", desc := "(I)I" } : Jvm.MethodName) ({ cls := "BoyBishop$Poll", name := "fewestToWinOver", desc := "(I)I" } : Jvm.MethodName)) ∈ gT := gT_in (List.mem_append_right _ (List.mem_append_right _ (List.mem_append_right _ (List.mem_append_right _ (List.mem_append_left _ (List.mem_of_getElem? (i := 227) rfl)))))) rfl
theorem tw_948 : (Jvm.Cond.code ({ cls := "BoyBishop$Poll", name := "fewestToWinOver", desc := "(I)I" } : Jvm.MethodName) prog_7_method_15_code (4 : Nat) (Option.some Jvm.ClassFile.FieldType.int)) ∈ gT := gT_in (List.mem_append_right _ (List.mem_append_right _ (List.mem_append_right _ (List.mem_append_right _ (List.mem_append_left _ (List.mem_of_getElem? (i := 228) rfl)))))) rfl
theorem dX11_visit_0 : decode cX11_visit 0 = .ok (.aload_n 0, 1) := by decide +kernel
theorem dX11_visit_1 : decode cX11_visit 1 = .ok (.iload_n 1, 1) := by decide +kernel
theorem dX11_visit_2 : decode cX11_visit 2 = .ok (.invokevirtual 173, 3) := by decide +kernel
theorem dX11_visit_5 : decode cX11_visit 5 = .ok (.ifCond .eq 11, 3) := by decide +kernel
theorem dX11_visit_8 : decode cX11_visit 8 = .ok (.aload_n 0, 1) := by decide +kernel
theorem dX11_visit_9 : decode cX11_visit 9 = .ok (.iload_n 1, 1) := by decide +kernel
theorem dX11_visit_10 : decode cX11_visit 10 = .ok (.invokevirtual 216, 3) := by decide +kernel
theorem dX11_visit_13 : decode cX11_visit 13 = .ok (.ifCond .ne 5, 3) := by decide +kernel
theorem dX11_visit_16 : decode cX11_visit 16 = .ok (.iconst (-1), 1) := by decide +kernel
theorem dX11_visit_17 : decode cX11_visit 17 = .ok (.ireturn, 1) := by decide +kernel
theorem dX11_visit_18 : decode cX11_visit 18 = .ok (.aload_n 0, 1) := by decide +kernel
theorem dX11_visit_19 : decode cX11_visit 19 = .ok (.getfield 60, 3) := by decide +kernel
theorem dX11_visit_22 : decode cX11_visit 22 = .ok (.aload_n 0, 1) := by decide +kernel
theorem dX11_visit_23 : decode cX11_visit 23 = .ok (.getfield 45, 3) := by decide +kernel
theorem dX11_visit_26 : decode cX11_visit 26 = .ok (.getfield 115, 3) := by decide +kernel
theorem dX11_visit_29 : decode cX11_visit 29 = .ok (.invokevirtual 201, 3) := by decide +kernel
theorem dX11_visit_32 : decode cX11_visit 32 = .ok (.aload_n 0, 1) := by decide +kernel
theorem dX11_visit_33 : decode cX11_visit 33 = .ok (.getfield 45, 3) := by decide +kernel
theorem dX11_visit_36 : decode cX11_visit 36 = .ok (.getfield 115, 3) := by decide +kernel
theorem dX11_visit_39 : decode cX11_visit 39 = .ok (.iload_n 1, 1) := by decide +kernel
theorem dX11_visit_40 : decode cX11_visit 40 = .ok (.invokevirtual 219, 3) := by decide +kernel
theorem dX11_visit_43 : decode cX11_visit 43 = .ok (.ireturn, 1) := by decide +kernel
theorem dX11_votes_0 : decode cX11_votes 0 = .ok (.aload_n 0, 1) := by decide +kernel
theorem dX11_votes_1 : decode cX11_votes 1 = .ok (.getfield 45, 3) := by decide +kernel
theorem dX11_votes_4 : decode cX11_votes 4 = .ok (.getfield 53, 3) := by decide +kernel
theorem dX11_votes_7 : decode cX11_votes 7 = .ok (.getfield 194, 3) := by decide +kernel
theorem dX11_votes_10 : decode cX11_votes 10 = .ok (.ifCond .eq 25, 3) := by decide +kernel
theorem dX11_votes_13 : decode cX11_votes 13 = .ok (.iload_n 2, 1) := by decide +kernel
theorem dX11_votes_14 : decode cX11_votes 14 = .ok (.ifCond .lt 21, 3) := by decide +kernel
theorem dX11_votes_17 : decode cX11_votes 17 = .ok (.iload_n 2, 1) := by decide +kernel
theorem dX11_votes_18 : decode cX11_votes 18 = .ok (.iconst 2, 1) := by decide +kernel
theorem dX11_votes_19 : decode cX11_votes 19 = .ok (.if_icmp .gt 16, 3) := by decide +kernel
theorem dX11_votes_22 : decode cX11_votes 22 = .ok (.iload_n 2, 1) := by decide +kernel
theorem dX11_votes_23 : decode cX11_votes 23 = .ok (.iconst 2, 1) := by decide +kernel
theorem dX11_votes_24 : decode cX11_votes 24 = .ok (.if_icmp .eq 14, 3) := by decide +kernel
theorem dX11_votes_27 : decode cX11_votes 27 = .ok (.aload_n 0, 1) := by decide +kernel
theorem dX11_votes_28 : decode cX11_votes 28 = .ok (.iload_n 1, 1) := by decide +kernel
theorem dX11_votes_29 : decode cX11_votes 29 = .ok (.invokevirtual 139, 3) := by decide +kernel
theorem dX11_votes_32 : decode cX11_votes 32 = .ok (.ifCond .ne 6, 3) := by decide +kernel
theorem dX11_votes_35 : decode cX11_votes 35 = .ok (.bipush (-2), 2) := by decide +kernel
theorem dX11_votes_37 : decode cX11_votes 37 = .ok (.ireturn, 1) := by decide +kernel
theorem dX11_votes_38 : decode cX11_votes 38 = .ok (.aload_n 0, 1) := by decide +kernel
theorem dX11_votes_39 : decode cX11_votes 39 = .ok (.getfield 67, 3) := by decide +kernel
theorem dX11_votes_42 : decode cX11_votes 42 = .ok (.aload_n 0, 1) := by decide +kernel
theorem dX11_votes_43 : decode cX11_votes 43 = .ok (.getfield 45, 3) := by decide +kernel
theorem dX11_votes_46 : decode cX11_votes 46 = .ok (.getfield 53, 3) := by decide +kernel
theorem dX11_votes_49 : decode cX11_votes 49 = .ok (.aload_n 0, 1) := by decide +kernel
theorem dX11_votes_50 : decode cX11_votes 50 = .ok (.getfield 45, 3) := by decide +kernel
theorem dX11_votes_53 : decode cX11_votes 53 = .ok (.getfield 115, 3) := by decide +kernel
theorem dX11_votes_56 : decode cX11_votes 56 = .ok (.aload_n 0, 1) := by decide +kernel
theorem dX11_votes_57 : decode cX11_votes 57 = .ok (.invokevirtual 205, 3) := by decide +kernel
theorem dX11_votes_60 : decode cX11_votes 60 = .ok (.invokevirtual 248, 3) := by decide +kernel
theorem dX11_votes_63 : decode cX11_votes 63 = .ok (.iload_n 2, 1) := by decide +kernel
theorem dX11_votes_64 : decode cX11_votes 64 = .ok (.lookupswitch 48 #[(0, 28), (1, 38)], 28) := by decide +kernel
theorem dX11_votes_92 : decode cX11_votes 92 = .ok (.aload_n 0, 1) := by decide +kernel
theorem dX11_votes_93 : decode cX11_votes 93 = .ok (.getfield 67, 3) := by decide +kernel
theorem dX11_votes_96 : decode cX11_votes 96 = .ok (.getfield 252, 3) := by decide +kernel
theorem dX11_votes_99 : decode cX11_votes 99 = .ok (.iload_n 1, 1) := by decide +kernel
theorem dX11_votes_100 : decode cX11_votes 100 = .ok (.iaload, 1) := by decide +kernel
theorem dX11_votes_101 : decode cX11_votes 101 = .ok (.ireturn, 1) := by decide +kernel
theorem dX11_votes_102 : decode cX11_votes 102 = .ok (.aload_n 0, 1) := by decide +kernel
theorem dX11_votes_103 : decode cX11_votes 103 = .ok (.getfield 67, 3) := by decide +kernel
theorem dX11_votes_106 : decode cX11_votes 106 = .ok (.getfield 255, 3) := by decide +kernel
theorem dX11_votes_109 : decode cX11_votes 109 = .ok (.iload_n 1, 1) := by decide +kernel
theorem dX11_votes_110 : decode cX11_votes 110 = .ok (.iaload, 1) := by decide +kernel
theorem dX11_votes_111 : decode cX11_votes 111 = .ok (.ireturn, 1) := by decide +kernel
theorem dX11_votes_112 : decode cX11_votes 112 = .ok (.aload_n 0, 1) := by decide +kernel
theorem dX11_votes_113 : decode cX11_votes 113 = .ok (.getfield 67, 3) := by decide +kernel
theorem dX11_votes_116 : decode cX11_votes 116 = .ok (.getfield 258, 3) := by decide +kernel
theorem dX11_votes_119 : decode cX11_votes 119 = .ok (.ireturn, 1) := by decide +kernel
theorem dX11_winOver_0 : decode cX11_winOver 0 = .ok (.aload_n 0, 1) := by decide +kernel
theorem dX11_winOver_1 : decode cX11_winOver 1 = .ok (.iload_n 1, 1) := by decide +kernel
theorem dX11_winOver_2 : decode cX11_winOver 2 = .ok (.invokevirtual 231, 3) := by decide +kernel
theorem dX11_winOver_5 : decode cX11_winOver 5 = .ok (.ifCond .eq 12, 3) := by decide +kernel
theorem dX11_winOver_8 : decode cX11_winOver 8 = .ok (.iload_n 2, 1) := by decide +kernel
theorem dX11_winOver_9 : decode cX11_winOver 9 = .ok (.ifCond .lt 8, 3) := by decide +kernel
theorem dX11_winOver_12 : decode cX11_winOver 12 = .ok (.iload_n 2, 1) := by decide +kernel
theorem dX11_winOver_13 : decode cX11_winOver 13 = .ok (.iconst 1, 1) := by decide +kernel
theorem dX11_winOver_14 : decode cX11_winOver 14 = .ok (.if_icmp .le 5, 3) := by decide +kernel
theorem dX11_winOver_17 : decode cX11_winOver 17 = .ok (.iconst (-1), 1) := by decide +kernel
theorem dX11_winOver_18 : decode cX11_winOver 18 = .ok (.ireturn, 1) := by decide +kernel
theorem dX11_winOver_19 : decode cX11_winOver 19 = .ok (.aload_n 0, 1) := by decide +kernel
theorem dX11_winOver_20 : decode cX11_winOver 20 = .ok (.getfield 67, 3) := by decide +kernel
theorem dX11_winOver_23 : decode cX11_winOver 23 = .ok (.aload_n 0, 1) := by decide +kernel
theorem dX11_winOver_24 : decode cX11_winOver 24 = .ok (.getfield 45, 3) := by decide +kernel
theorem dX11_winOver_27 : decode cX11_winOver 27 = .ok (.getfield 53, 3) := by decide +kernel
theorem dX11_winOver_30 : decode cX11_winOver 30 = .ok (.aload_n 0, 1) := by decide +kernel
theorem dX11_winOver_31 : decode cX11_winOver 31 = .ok (.getfield 45, 3) := by decide +kernel
theorem dX11_winOver_34 : decode cX11_winOver 34 = .ok (.getfield 115, 3) := by decide +kernel
theorem dX11_winOver_37 : decode cX11_winOver 37 = .ok (.aload_n 0, 1) := by decide +kernel
theorem dX11_winOver_38 : decode cX11_winOver 38 = .ok (.invokevirtual 205, 3) := by decide +kernel
theorem dX11_winOver_41 : decode cX11_winOver 41 = .ok (.invokevirtual 248, 3) := by decide +kernel
theorem dX11_winOver_44 : decode cX11_winOver 44 = .ok (.aload_n 0, 1) := by decide +kernel
theorem dX11_winOver_45 : decode cX11_winOver 45 = .ok (.getfield 67, 3) := by decide +kernel
theorem dX11_winOver_48 : decode cX11_winOver 48 = .ok (.iload_n 1, 1) := by decide +kernel
theorem dX11_winOver_49 : decode cX11_winOver 49 = .ok (.invokevirtual 271, 3) := by decide +kernel
theorem dX11_winOver_52 : decode cX11_winOver 52 = .ok (.istore_n 3, 1) := by decide +kernel
theorem dX11_winOver_53 : decode cX11_winOver 53 = .ok (.iload_n 2, 1) := by decide +kernel
theorem dX11_winOver_54 : decode cX11_winOver 54 = .ok (.ifCond .ne 10, 3) := by decide +kernel
theorem dX11_winOver_57 : decode cX11_winOver 57 = .ok (.iload_n 3, 1) := by decide +kernel
theorem dX11_winOver_58 : decode cX11_winOver 58 = .ok (.invokestatic 274, 3) := by decide +kernel
theorem dX11_winOver_61 : decode cX11_winOver 61 = .ok (.goto 4, 3) := by decide +kernel
theorem dX11_winOver_64 : decode cX11_winOver 64 = .ok (.iload_n 3, 1) := by decide +kernel
theorem dX11_winOver_65 : decode cX11_winOver 65 = .ok (.ireturn, 1) := by decide +kernel
theorem dX11_winters_0 : decode cX11_winters 0 = .ok (.aload_n 0, 1) := by decide +kernel
theorem dX11_winters_1 : decode cX11_winters 1 = .ok (.getfield 45, 3) := by decide +kernel
theorem dX11_winters_4 : decode cX11_winters 4 = .ok (.getfield 53, 3) := by decide +kernel
theorem dX11_winters_7 : decode cX11_winters 7 = .ok (.getfield 194, 3) := by decide +kernel
theorem dX11_winters_10 : decode cX11_winters 10 = .ok (.ifCond .eq 25, 3) := by decide +kernel
theorem dX11_winters_13 : decode cX11_winters 13 = .ok (.iload_n 1, 1) := by decide +kernel
theorem dX11_winters_14 : decode cX11_winters 14 = .ok (.iconst 1, 1) := by decide +kernel
theorem dX11_winters_15 : decode cX11_winters 15 = .ok (.if_icmp .lt 20, 3) := by decide +kernel
theorem dX11_winters_18 : decode cX11_winters 18 = .ok (.iload_n 1, 1) := by decide +kernel
theorem dX11_winters_19 : decode cX11_winters 19 = .ok (.bipush 10, 2) := by decide +kernel
theorem dX11_winters_21 : decode cX11_winters 21 = .ok (.if_icmp .gt 14, 3) := by decide +kernel
theorem dX11_winters_24 : decode cX11_winters 24 = .ok (.iload_n 2, 1) := by decide +kernel
theorem dX11_winters_25 : decode cX11_winters 25 = .ok (.iconst 1, 1) := by decide +kernel
theorem dX11_winters_26 : decode cX11_winters 26 = .ok (.if_icmp .lt 9, 3) := by decide +kernel
theorem dX11_winters_29 : decode cX11_winters 29 = .ok (.iload_n 2, 1) := by decide +kernel
theorem dX11_winters_30 : decode cX11_winters 30 = .ok (.bipush 60, 2) := by decide +kernel
theorem dX11_winters_32 : decode cX11_winters 32 = .ok (.if_icmp .le 5, 3) := by decide +kernel
theorem dX11_winters_35 : decode cX11_winters 35 = .ok (.iconst (-1), 1) := by decide +kernel
theorem dX11_winters_36 : decode cX11_winters 36 = .ok (.ireturn, 1) := by decide +kernel
theorem dX11_winters_37 : decode cX11_winters 37 = .ok (.iload_n 3, 1) := by decide +kernel
theorem dX11_winters_38 : decode cX11_winters 38 = .ok (.ifCond .lt 20, 3) := by decide +kernel
theorem dX11_winters_41 : decode cX11_winters 41 = .ok (.iload_n 3, 1) := by decide +kernel
theorem dX11_winters_42 : decode cX11_winters 42 = .ok (.bipush 100, 2) := by decide +kernel
theorem dX11_winters_44 : decode cX11_winters 44 = .ok (.if_icmp .gt 14, 3) := by decide +kernel
theorem dX11_winters_47 : decode cX11_winters 47 = .ok (.iload 4, 2) := by decide +kernel
theorem dX11_winters_49 : decode cX11_winters 49 = .ok (.ifCond .lt 9, 3) := by decide +kernel
theorem dX11_winters_52 : decode cX11_winters 52 = .ok (.iload 4, 2) := by decide +kernel
theorem dX11_winters_54 : decode cX11_winters 54 = .ok (.iconst 1, 1) := by decide +kernel
theorem dX11_winters_55 : decode cX11_winters 55 = .ok (.if_icmp .le 5, 3) := by decide +kernel
theorem dX11_winters_58 : decode cX11_winters 58 = .ok (.iconst (-1), 1) := by decide +kernel
theorem dX11_winters_59 : decode cX11_winters 59 = .ok (.ireturn, 1) := by decide +kernel
theorem dX11_winters_60 : decode cX11_winters 60 = .ok (.aload_n 0, 1) := by decide +kernel
theorem dX11_winters_61 : decode cX11_winters 61 = .ok (.getfield 76, 3) := by decide +kernel
theorem dX11_winters_64 : decode cX11_winters 64 = .ok (.aload_n 0, 1) := by decide +kernel
theorem dX11_winters_65 : decode cX11_winters 65 = .ok (.getfield 45, 3) := by decide +kernel
theorem dX11_winters_68 : decode cX11_winters 68 = .ok (.getfield 336, 3) := by decide +kernel
theorem dX11_winters_71 : decode cX11_winters 71 = .ok (.invokevirtual 339, 3) := by decide +kernel
theorem dX11_winters_74 : decode cX11_winters 74 = .ok (.iconst 0, 1) := by decide +kernel
theorem dX11_winters_75 : decode cX11_winters 75 = .ok (.istore 5, 2) := by decide +kernel
theorem dX11_winters_77 : decode cX11_winters 77 = .ok (.iload 5, 2) := by decide +kernel
theorem dX11_winters_79 : decode cX11_winters 79 = .ok (.iload_n 1, 1) := by decide +kernel
theorem dX11_winters_80 : decode cX11_winters 80 = .ok (.if_icmp .ge 47, 3) := by decide +kernel
theorem dX11_winters_83 : decode cX11_winters 83 = .ok (.aload_n 0, 1) := by decide +kernel
theorem dX11_winters_84 : decode cX11_winters 84 = .ok (.getfield 92, 3) := by decide +kernel
theorem dX11_winters_87 : decode cX11_winters 87 = .ok (.aload_n 0, 1) := by decide +kernel
theorem dX11_winters_88 : decode cX11_winters 88 = .ok (.getfield 45, 3) := by decide +kernel
theorem dX11_winters_91 : decode cX11_winters 91 = .ok (.getfield 115, 3) := by decide +kernel
theorem dX11_winters_94 : decode cX11_winters 94 = .ok (.invokevirtual 245, 3) := by decide +kernel
theorem dX11_winters_97 : decode cX11_winters 97 = .ok (.aload_n 0, 1) := by decide +kernel
theorem dX11_winters_98 : decode cX11_winters 98 = .ok (.getfield 76, 3) := by decide +kernel
theorem dX11_winters_101 : decode cX11_winters 101 = .ok (.aload_n 0, 1) := by decide +kernel
theorem dX11_winters_102 : decode cX11_winters 102 = .ok (.getfield 45, 3) := by decide +kernel
theorem dX11_winters_105 : decode cX11_winters 105 = .ok (.getfield 53, 3) := by decide +kernel
theorem dX11_winters_108 : decode cX11_winters 108 = .ok (.aload_n 0, 1) := by decide +kernel
theorem dX11_winters_109 : decode cX11_winters 109 = .ok (.getfield 92, 3) := by decide +kernel
theorem dX11_winters_112 : decode cX11_winters 112 = .ok (.aload_n 0, 1) := by decide +kernel
theorem dX11_winters_113 : decode cX11_winters 113 = .ok (.invokevirtual 205, 3) := by decide +kernel
theorem dX11_winters_116 : decode cX11_winters 116 = .ok (.iload_n 2, 1) := by decide +kernel
theorem dX11_winters_117 : decode cX11_winters 117 = .ok (.iload_n 3, 1) := by decide +kernel
theorem dX11_winters_118 : decode cX11_winters 118 = .ok (.invokevirtual 342, 3) := by decide +kernel
theorem dX11_winters_121 : decode cX11_winters 121 = .ok (.iinc 5 1, 3) := by decide +kernel
theorem dX11_winters_124 : decode cX11_winters 124 = .ok (.goto (-47), 3) := by decide +kernel
theorem dX11_winters_127 : decode cX11_winters 127 = .ok (.iload 4, 2) := by decide +kernel
theorem dX11_winters_129 : decode cX11_winters 129 = .ok (.ifCond .ne 13, 3) := by decide +kernel
theorem dX11_winters_132 : decode cX11_winters 132 = .ok (.aload_n 0, 1) := by decide +kernel
theorem dX11_winters_133 : decode cX11_winters 133 = .ok (.getfield 76, 3) := by decide +kernel
theorem dX11_winters_136 : decode cX11_winters 136 = .ok (.getfield 345, 3) := by decide +kernel
theorem dX11_winters_139 : decode cX11_winters 139 = .ok (.goto 10, 3) := by decide +kernel
theorem dX11_winters_142 : decode cX11_winters 142 = .ok (.aload_n 0, 1) := by decide +kernel
theorem dX11_winters_143 : decode cX11_winters 143 = .ok (.getfield 76, 3) := by decide +kernel
theorem dX11_winters_146 : decode cX11_winters 146 = .ok (.getfield 346, 3) := by decide +kernel
theorem dX11_winters_149 : decode cX11_winters 149 = .ok (.ireturn, 1) := by decide +kernel
theorem dX3_beginWinters_0 : decode cX3_beginWinters 0 = .ok (.aload_n 0, 1) := by decide +kernel
theorem dX3_beginWinters_1 : decode cX3_beginWinters 1 = .ok (.iload_n 1, 1) := by decide +kernel
theorem dX3_beginWinters_2 : decode cX3_beginWinters 2 = .ok (.i2l, 1) := by decide +kernel
theorem dX3_beginWinters_3 : decode cX3_beginWinters 3 = .ok (.putfield 38, 3) := by decide +kernel
theorem dX3_beginWinters_6 : decode cX3_beginWinters 6 = .ok (.aload_n 0, 1) := by decide +kernel
theorem dX3_beginWinters_7 : decode cX3_beginWinters 7 = .ok (.iconst 0, 1) := by decide +kernel
theorem dX3_beginWinters_8 : decode cX3_beginWinters 8 = .ok (.putfield 42, 3) := by decide +kernel
theorem dX3_beginWinters_11 : decode cX3_beginWinters 11 = .ok (.aload_n 0, 1) := by decide +kernel
theorem dX3_beginWinters_12 : decode cX3_beginWinters 12 = .ok (.iconst 0, 1) := by decide +kernel
theorem dX3_beginWinters_13 : decode cX3_beginWinters 13 = .ok (.putfield 43, 3) := by decide +kernel
theorem dX3_beginWinters_16 : decode cX3_beginWinters 16 = .ok (.return_, 1) := by decide +kernel
theorem dX3_draw_0 : decode cX3_draw 0 = .ok (.aload_n 0, 1) := by decide +kernel
theorem dX3_draw_1 : decode cX3_draw 1 = .ok (.aload_n 0, 1) := by decide +kernel
theorem dX3_draw_2 : decode cX3_draw 2 = .ok (.getfield 38, 3) := by decide +kernel
theorem dX3_draw_5 : decode cX3_draw 5 = .ok (.ldc2_w 78, 3) := by decide +kernel
theorem dX3_draw_8 : decode cX3_draw 8 = .ok (.lmul, 1) := by decide +kernel
theorem dX3_draw_9 : decode cX3_draw 9 = .ok (.ldc2_w 80, 3) := by decide +kernel
theorem dX3_draw_12 : decode cX3_draw 12 = .ok (.ladd, 1) := by decide +kernel
theorem dX3_draw_13 : decode cX3_draw 13 = .ok (.ldc2_w 82, 3) := by decide +kernel
theorem dX3_draw_16 : decode cX3_draw 16 = .ok (.lrem, 1) := by decide +kernel
theorem dX3_draw_17 : decode cX3_draw 17 = .ok (.putfield 38, 3) := by decide +kernel
theorem dX3_draw_20 : decode cX3_draw 20 = .ok (.aload_n 0, 1) := by decide +kernel
theorem dX3_draw_21 : decode cX3_draw 21 = .ok (.getfield 38, 3) := by decide +kernel
theorem dX3_draw_24 : decode cX3_draw 24 = .ok (.ldc2_w 84, 3) := by decide +kernel
theorem dX3_draw_27 : decode cX3_draw 27 = .ok (.ldiv, 1) := by decide +kernel
theorem dX3_draw_28 : decode cX3_draw 28 = .ok (.lreturn, 1) := by decide +kernel
theorem dX3_drawVoices_0 : decode cX3_drawVoices 0 = .ok (.iconst 0, 1) := by decide +kernel
theorem dX3_drawVoices_1 : decode cX3_drawVoices 1 = .ok (.istore 4, 2) := by decide +kernel
theorem dX3_drawVoices_3 : decode cX3_drawVoices 3 = .ok (.iload 4, 2) := by decide +kernel
theorem dX3_drawVoices_5 : decode cX3_drawVoices 5 = .ok (.iload_n 1, 1) := by decide +kernel
theorem dX3_drawVoices_6 : decode cX3_drawVoices 6 = .ok (.if_icmp .ge 41, 3) := by decide +kernel
theorem dX3_drawVoices_9 : decode cX3_drawVoices 9 = .ok (.aload_n 2, 1) := by decide +kernel
theorem dX3_drawVoices_10 : decode cX3_drawVoices 10 = .ok (.getfield 68, 3) := by decide +kernel
theorem dX3_drawVoices_13 : decode cX3_drawVoices 13 = .ok (.iload 4, 2) := by decide +kernel
theorem dX3_drawVoices_15 : decode cX3_drawVoices 15 = .ok (.iaload, 1) := by decide +kernel
theorem dX3_drawVoices_16 : decode cX3_drawVoices 16 = .ok (.ifCond .le 25, 3) := by decide +kernel
theorem dX3_drawVoices_19 : decode cX3_drawVoices 19 = .ok (.aload_n 0, 1) := by decide +kernel
theorem dX3_drawVoices_20 : decode cX3_drawVoices 20 = .ok (.invokevirtual 72, 3) := by decide +kernel
theorem dX3_drawVoices_23 : decode cX3_drawVoices 23 = .ok (.ldc2_w 76, 3) := by decide +kernel
theorem dX3_drawVoices_26 : decode cX3_drawVoices 26 = .ok (.lrem, 1) := by decide +kernel
theorem dX3_drawVoices_27 : decode cX3_drawVoices 27 = .ok (.iload_n 3, 1) := by decide +kernel
theorem dX3_drawVoices_28 : decode cX3_drawVoices 28 = .ok (.i2l, 1) := by decide +kernel
theorem dX3_drawVoices_29 : decode cX3_drawVoices 29 = .ok (.lcmp, 1) := by decide +kernel
theorem dX3_drawVoices_30 : decode cX3_drawVoices 30 = .ok (.ifCond .ge 11, 3) := by decide +kernel
theorem dX3_drawVoices_33 : decode cX3_drawVoices 33 = .ok (.aload_n 2, 1) := by decide +kernel
theorem dX3_drawVoices_34 : decode cX3_drawVoices 34 = .ok (.getfield 68, 3) := by decide +kernel
theorem dX3_drawVoices_37 : decode cX3_drawVoices 37 = .ok (.iload 4, 2) := by decide +kernel
theorem dX3_drawVoices_39 : decode cX3_drawVoices 39 = .ok (.iconst 0, 1) := by decide +kernel
theorem dX3_drawVoices_40 : decode cX3_drawVoices 40 = .ok (.iastore, 1) := by decide +kernel
theorem dX3_drawVoices_41 : decode cX3_drawVoices 41 = .ok (.iinc 4 1, 3) := by decide +kernel
theorem dX3_drawVoices_44 : decode cX3_drawVoices 44 = .ok (.goto (-41), 3) := by decide +kernel
theorem dX3_drawVoices_47 : decode cX3_drawVoices 47 = .ok (.return_, 1) := by decide +kernel
theorem dX3_passWinter_0 : decode cX3_passWinter 0 = .ok (.iconst 0, 1) := by decide +kernel
theorem dX3_passWinter_1 : decode cX3_passWinter 1 = .ok (.istore 6, 2) := by decide +kernel
theorem dX3_passWinter_3 : decode cX3_passWinter 3 = .ok (.iload 6, 2) := by decide +kernel
theorem dX3_passWinter_5 : decode cX3_passWinter 5 = .ok (.iload 4, 2) := by decide +kernel
theorem dX3_passWinter_7 : decode cX3_passWinter 7 = .ok (.if_icmp .ge 40, 3) := by decide +kernel
theorem dX3_passWinter_10 : decode cX3_passWinter 10 = .ok (.aload_n 0, 1) := by decide +kernel
theorem dX3_passWinter_11 : decode cX3_passWinter 11 = .ok (.aload_n 1, 1) := by decide +kernel
theorem dX3_passWinter_12 : decode cX3_passWinter 12 = .ok (.getfield 46, 3) := by decide +kernel
theorem dX3_passWinter_15 : decode cX3_passWinter 15 = .ok (.aload_n 2, 1) := by decide +kernel
theorem dX3_passWinter_16 : decode cX3_passWinter 16 = .ok (.iload 5, 2) := by decide +kernel
theorem dX3_passWinter_18 : decode cX3_passWinter 18 = .ok (.invokevirtual 51, 3) := by decide +kernel
theorem dX3_passWinter_21 : decode cX3_passWinter 21 = .ok (.aload_n 0, 1) := by decide +kernel
theorem dX3_passWinter_22 : decode cX3_passWinter 22 = .ok (.aload_n 1, 1) := by decide +kernel
theorem dX3_passWinter_23 : decode cX3_passWinter 23 = .ok (.aload_n 2, 1) := by decide +kernel
theorem dX3_passWinter_24 : decode cX3_passWinter 24 = .ok (.aload_n 3, 1) := by decide +kernel
theorem dX3_passWinter_25 : decode cX3_passWinter 25 = .ok (.invokevirtual 55, 3) := by decide +kernel
theorem dX3_passWinter_28 : decode cX3_passWinter 28 = .ok (.ifCond .eq 13, 3) := by decide +kernel
theorem dX3_passWinter_31 : decode cX3_passWinter 31 = .ok (.aload_n 0, 1) := by decide +kernel
theorem dX3_passWinter_32 : decode cX3_passWinter 32 = .ok (.dup, 1) := by decide +kernel
theorem dX3_passWinter_33 : decode cX3_passWinter 33 = .ok (.getfield 42, 3) := by decide +kernel
theorem dX3_passWinter_36 : decode cX3_passWinter 36 = .ok (.iconst 1, 1) := by decide +kernel
theorem dX3_passWinter_37 : decode cX3_passWinter 37 = .ok (.iadd, 1) := by decide +kernel
theorem dX3_passWinter_38 : decode cX3_passWinter 38 = .ok (.putfield 42, 3) := by decide +kernel
theorem dX3_passWinter_41 : decode cX3_passWinter 41 = .ok (.iinc 6 1, 3) := by decide +kernel
theorem dX3_passWinter_44 : decode cX3_passWinter 44 = .ok (.goto (-41), 3) := by decide +kernel
theorem dX3_passWinter_47 : decode cX3_passWinter 47 = .ok (.aload_n 0, 1) := by decide +kernel
theorem dX3_passWinter_48 : decode cX3_passWinter 48 = .ok (.dup, 1) := by decide +kernel
theorem dX3_passWinter_49 : decode cX3_passWinter 49 = .ok (.getfield 43, 3) := by decide +kernel
theorem dX3_passWinter_52 : decode cX3_passWinter 52 = .ok (.aload_n 2, 1) := by decide +kernel
theorem dX3_passWinter_53 : decode cX3_passWinter 53 = .ok (.aload_n 1, 1) := by decide +kernel
theorem dX3_passWinter_54 : decode cX3_passWinter 54 = .ok (.getfield 46, 3) := by decide +kernel
theorem dX3_passWinter_57 : decode cX3_passWinter 57 = .ok (.invokevirtual 59, 3) := by decide +kernel
theorem dX3_passWinter_60 : decode cX3_passWinter 60 = .ok (.invokestatic 63, 3) := by decide +kernel
theorem dX3_passWinter_63 : decode cX3_passWinter 63 = .ok (.iadd, 1) := by decide +kernel
theorem dX3_passWinter_64 : decode cX3_passWinter 64 = .ok (.putfield 43, 3) := by decide +kernel
theorem dX3_passWinter_67 : decode cX3_passWinter 67 = .ok (.return_, 1) := by decide +kernel
theorem dX5_fewestToWinOver_0 : decode cX5_fewestToWinOver 0 = .ok (.iconst 1, 1) := by decide +kernel
theorem dX5_fewestToWinOver_1 : decode cX5_fewestToWinOver 1 = .ok (.aload_n 0, 1) := by decide +kernel
theorem dX5_fewestToWinOver_2 : decode cX5_fewestToWinOver 2 = .ok (.getfield 36, 3) := by decide +kernel
theorem dX5_fewestToWinOver_5 : decode cX5_fewestToWinOver 5 = .ok (.ishl, 1) := by decide +kernel
theorem dX5_fewestToWinOver_6 : decode cX5_fewestToWinOver 6 = .ok (.iconst 1, 1) := by decide +kernel
theorem dX5_fewestToWinOver_7 : decode cX5_fewestToWinOver 7 = .ok (.isub, 1) := by decide +kernel
theorem dX5_fewestToWinOver_8 : decode cX5_fewestToWinOver 8 = .ok (.istore_n 2, 1) := by decide +kernel
theorem dX5_fewestToWinOver_9 : decode cX5_fewestToWinOver 9 = .ok (.iconst 0, 1) := by decide +kernel
theorem dX5_fewestToWinOver_10 : decode cX5_fewestToWinOver 10 = .ok (.istore_n 3, 1) := by decide +kernel
theorem dX5_fewestToWinOver_11 : decode cX5_fewestToWinOver 11 = .ok (.iload_n 3, 1) := by decide +kernel
theorem dX5_fewestToWinOver_12 : decode cX5_fewestToWinOver 12 = .ok (.iconst 1, 1) := by decide +kernel
theorem dX5_fewestToWinOver_13 : decode cX5_fewestToWinOver 13 = .ok (.aload_n 0, 1) := by decide +kernel
theorem dX5_fewestToWinOver_14 : decode cX5_fewestToWinOver 14 = .ok (.getfield 36, 3) := by decide +kernel
theorem dX5_fewestToWinOver_17 : decode cX5_fewestToWinOver 17 = .ok (.ishl, 1) := by decide +kernel
theorem dX5_fewestToWinOver_18 : decode cX5_fewestToWinOver 18 = .ok (.if_icmp .ge 32, 3) := by decide +kernel
theorem dX5_fewestToWinOver_21 : decode cX5_fewestToWinOver 21 = .ok (.iload_n 3, 1) := by decide +kernel
theorem dX5_fewestToWinOver_22 : decode cX5_fewestToWinOver 22 = .ok (.invokestatic 52, 3) := by decide +kernel
theorem dX5_fewestToWinOver_25 : decode cX5_fewestToWinOver 25 = .ok (.iload_n 2, 1) := by decide +kernel
theorem dX5_fewestToWinOver_26 : decode cX5_fewestToWinOver 26 = .ok (.invokestatic 52, 3) := by decide +kernel
theorem dX5_fewestToWinOver_29 : decode cX5_fewestToWinOver 29 = .ok (.if_icmp .ge 15, 3) := by decide +kernel
theorem dX5_fewestToWinOver_32 : decode cX5_fewestToWinOver 32 = .ok (.aload_n 0, 1) := by decide +kernel
theorem dX5_fewestToWinOver_33 : decode cX5_fewestToWinOver 33 = .ok (.iload_n 1, 1) := by decide +kernel
theorem dX5_fewestToWinOver_34 : decode cX5_fewestToWinOver 34 = .ok (.iload_n 3, 1) := by decide +kernel
theorem dX5_fewestToWinOver_35 : decode cX5_fewestToWinOver 35 = .ok (.invokevirtual 79, 3) := by decide +kernel
theorem dX5_fewestToWinOver_38 : decode cX5_fewestToWinOver 38 = .ok (.iload_n 1, 1) := by decide +kernel
theorem dX5_fewestToWinOver_39 : decode cX5_fewestToWinOver 39 = .ok (.if_icmp .ne 5, 3) := by decide +kernel
theorem dX5_fewestToWinOver_42 : decode cX5_fewestToWinOver 42 = .ok (.iload_n 3, 1) := by decide +kernel
theorem dX5_fewestToWinOver_43 : decode cX5_fewestToWinOver 43 = .ok (.istore_n 2, 1) := by decide +kernel
theorem dX5_fewestToWinOver_44 : decode cX5_fewestToWinOver 44 = .ok (.iinc 3 1, 3) := by decide +kernel
theorem dX5_fewestToWinOver_47 : decode cX5_fewestToWinOver 47 = .ok (.goto (-36), 3) := by decide +kernel
theorem dX5_fewestToWinOver_50 : decode cX5_fewestToWinOver 50 = .ok (.iload_n 2, 1) := by decide +kernel
theorem dX5_fewestToWinOver_51 : decode cX5_fewestToWinOver 51 = .ok (.ireturn, 1) := by decide +kernel
set_option maxHeartbeats 4000000 in
set_option maxRecDepth 100000 in
theorem t_X11_visit (l : Launch) (dC : Nat → ClassId) (dI : Nat → Nat → Nat) (tys : List (ClassId × FieldType)) (κ : tK) (B : Nat) (ws : va_W) (hT : Ty κ tys B ws) (a0 : Nat) (k_a0 : κ a0 = some 11) (a1 : Int32) (sz : Nat) : Met l yX11_visit (ws_u yX11_visit cX11_visit 2 (some .int)) ({ frames := 3, cells := 0, slots := 0, locals := 102 }) (va_Pc [.ref a0, .int a1] (cPre (dC, dI) tys ws sz)) (va_Qi (fun (r : Int32) (w : va_W) => Ty κ tys B w ∧ Sm [(4, 1), (4, 2), (8, 0), (8, 1), (8, 2), (8, 3), (8, 4), (8, 5), (8, 6)] [43, 44, 45, 46, 47, 48] κ ws w) (fun w t => cPost (dC, dI) tys w (va_A ws sz) t) (va_A ws sz)) 0 0 (va_A ws sz) := by
  refine Met.ofW (cc := cX11_visit) (maxL := 2) (ret := (some .int)) (by decide) rfl ?_
  intro p e s m args below meth c s₁ B0 hml hv
  obtain ⟨rfl, hsz, hP, hK, hD0, hE⟩ := hv
  have hx := B0.exec
  have hb := B0.bytes
  have hr := B0.returns
  have hts0 := atoms_spec (ws := ws_u yX11_visit cX11_visit 2 (some .int)) B0.pre
  have hts : ∀ w ∈ gT, w.before _ s = true := fun w h => hts0 w (List.mem_cons_of_mem _ h)
  have hown : s.vm.findClass RX11 = some m.cls := findClass_of_methodNamed B0.named
  have hlocks := B0.notSynchronized
  subst hsz
  have hD := hD0.self (sz := s.heap.size)
  generalize hAe : va_A ws s.heap.size = A at hD ⊢
  have hA : ∀ q : Nat, s.heap.size ≤ q → A q := fun q h => by rw [← hAe]; exact Or.inr h
  have hw : tW (dC, dI) tys κ B A s ws s.heap [] := ⟨hK, hP, hD, va_S.rf, hT⟩
  have hM : Sm [(4, 1), (4, 2), (8, 0), (8, 1), (8, 2), (8, 3), (8, 4), (8, 5), (8, 6)] [43, 44, 45, 46, 47, 48] κ ws ws := Sm.rf
  clear hP hK hD hD0 hts0
  have l_a1 := i32_lo a1
  have h_a1 := i32_hi a1
  have hl := lv_entry ([.ref a0, .int a1]) (n := 2) (Nat.le_of_ble_eq_true rfl)
  rw [lg_entry_eq]
  generalize (lg_sl ([.ref a0, .int a1]) ++ List.replicate (2 - (lg_sl ([.ref a0, .int a1])).length) Slot.unset).toArray = ls at hl ⊢
  have hl : lv_has ls 2 [(0, .ref a0), (1, .int a1)] := hl
  refine t_start (fun QQ hQ => ?_)
  refine lv_aload_n hx hb dX11_visit_0 rfl (lv_at hl 0 rfl) ?_
  refine lv_iload_n hx hb dX11_visit_1 rfl (lv_at hl 1 rfl) ?_
  refine t_calli (va_runV (As := [.int a1]) (rest := []) ⟨hx, hb, hml, hown, hts⟩ (t_X11_isFarm l dC dI tys κ B ws hw.2.2.2.2 a0 k_a0 a1 s.heap.size) (cwV 1 hts (gUV tw_730 tw_732 ts_1_1 tw_1 tw_733) rfl rfl rfl (by decide +kernel) ⟨(Nat.le_of_ble_eq_true rfl), (Nat.le_of_ble_eq_true rfl)⟩) ⟨cPre.blind, t_recv hw (ci := 11) k_a0 rfl rfl, cPre.use hw.2.1 hw.1 hw.2.2.1 hE⟩ rfl rfl hl.1 rfl (lv_room (Nat.le_of_ble_eq_true rfl)) dX11_visit_2 ⟨(Nat.le_of_ble_eq_true rfl), (Nat.le_of_ble_eq_true rfl)⟩) hw hA (fun _ _ h => h.2.2.1) (fun v2 w_1 H locs hp hw => ?_)
  obtain ⟨l_v2, h_v2, _, hm, x_v2_0⟩ := hp
  have hM := hM.trans hm (by decide) (by decide)
  refine lv_if_eq (tgt := 16) hx hb dX11_visit_5 (by decide) (fun c_5 => ?_) (fun c_5 => ?_)
  · simp only [fa_lt, fa_le, fa_eq, li_0] at c_5
    refine lv_iconst (v := (-1)) hx hb dX11_visit_16 (by decide) ?_
    rw [hQ]
    refine W.widen (k := 0) (n := 0) (Nat.le_refl _) (Nat.le_refl _) ?_
    exact W.iret (v := (-1)) hx hb hr (fun t ht hW => ⟨⟨(-1), w_1, rfl, ⟨hw.2.2.2.2, hM⟩, by rw [ht]; exact hw.2.1, va_K.moved hW.alike hw.1, hw.2.2.1⟩, hw.2.2.2.1.F ht⟩) hw.2.2.2.1.2.2 dX11_visit_17
  · simp only [fa_lt, fa_le, fa_eq, li_0] at c_5
    refine lv_aload_n hx hb dX11_visit_8 rfl (lv_at hl 0 rfl) ?_
    refine lv_iload_n hx hb dX11_visit_9 rfl (lv_at hl 1 rfl) ?_
    refine t_calli (va_runV (As := [.int a1]) (rest := []) ⟨hx, hb, hml, hown, hts⟩ (t_X11_canBeVisited l dC dI tys κ B w_1 hw.2.2.2.2 a0 k_a0 a1 (by omega) (by omega) H.size) (cwV 1 hts (gUV tw_845 tw_847 ts_1_13 tw_1 tw_848) rfl rfl rfl (by decide +kernel) ⟨(Nat.le_of_ble_eq_true rfl), (Nat.le_of_ble_eq_true rfl)⟩) ⟨cPre.blind, t_recv hw (ci := 11) k_a0 rfl rfl, cPre.use hw.2.1 hw.1 hw.2.2.1 hE⟩ rfl rfl hl.1 rfl (lv_room (Nat.le_of_ble_eq_true rfl)) dX11_visit_10 ⟨(Nat.le_of_ble_eq_true rfl), (Nat.le_of_ble_eq_true rfl)⟩) hw hA (fun _ _ h => h.2.2.1) (fun v10 w_2 H locs hp hw => ?_)
    obtain ⟨l_v10, h_v10, _, hm, ⟨v10n, v10s, v10b, k_v10n, k_v10s, l_v10b, h_v10b, f_a0_X11_5, f_v10n_X10_1, f_v10s_X8_1, z_v10b⟩⟩ := hp
    have hM := hM.trans hm (by decide) (by decide)
    refine lv_if_ne (tgt := 18) hx hb dX11_visit_13 (by decide) (fun c_13 => ?_) (fun c_13 => ?_)
    · simp only [fa_lt, fa_le, fa_eq, li_0] at c_13
      refine lv_aload_n hx hb dX11_visit_18 rfl (lv_at hl 0 rfl) ?_
      refine t_getr (k1 := 4) (ci := 11) (C := RX11) (T := TX11) (N := 12) hx hb hts iX11 hown hw k_a0 rfl rfl rfl 7 (by decide) (hts _ tw_430) (fun _ h9 => h9) dX11_visit_19 rfl (fun v19 k_v19 f_a0_X11_7 => ?_)
      refine lv_aload_n hx hb dX11_visit_22 rfl (lv_at hl 0 rfl) ?_
      refine t_getk (ci := 11) (C := RX11) (T := TX11) (N := 12) hx hb hts iX11 hown hw rfl 5 (by decide) (hts _ tw_428) (fun _ h9 => h9) dX11_visit_23 f_a0_X11_5 ?_
      refine t_getk (ci := 10) (C := RX10) (T := TX10) (N := 8) hx hb hts iX10 hown hw rfl 1 (by decide) (hts _ tw_285) (fun _ h9 => h9) dX11_visit_26 f_v10n_X10_1 ?_
      refine t_callv (va_runV (As := [.ref v10s]) (rest := []) ⟨hx, hb, hml, hown, hts⟩ (t_X4_keep l dC dI tys κ B w_2 hw.2.2.2.2 v19 k_v19 v10s k_v10s v10b (by omega) (by omega) f_v10s_X8_1 H.size) (cwV 1 hts (gUV tw_747 tw_748 tw_749 tw_9 tw_750) rfl rfl rfl (by decide +kernel) ⟨(Nat.le_of_ble_eq_true rfl), (Nat.le_of_ble_eq_true rfl)⟩) ⟨cPre.blind, t_recv hw (ci := 4) k_v19 rfl rfl, cPre.use hw.2.1 hw.1 hw.2.2.1 hE⟩ rfl rfl hl.1 rfl (lv_room (Nat.le_of_ble_eq_true rfl)) dX11_visit_29 ⟨(Nat.le_of_ble_eq_true rfl), (Nat.le_of_ble_eq_true rfl)⟩) hw hA (fun _ h => h.1) (fun w_3 H locs hp hw => ?_)
      obtain ⟨_, hm, f_v10s_X8_1⟩ := hp
      have hM := hM.trans hm (by decide) (by decide)
      have f_a0_X11_5 := hm.1 _ _ _ _ f_a0_X11_5 (by decide)
      have f_v10n_X10_1 := hm.1 _ _ _ _ f_v10n_X10_1 (by decide)
      have f_a0_X11_7 := hm.1 _ _ _ _ f_a0_X11_7 (by decide)
      refine lv_aload_n hx hb dX11_visit_32 rfl (lv_at hl 0 rfl) ?_
      refine t_getk (ci := 11) (C := RX11) (T := TX11) (N := 12) hx hb hts iX11 hown hw rfl 5 (by decide) (hts _ tw_428) (fun _ h9 => h9) dX11_visit_33 f_a0_X11_5 ?_
      refine t_getk (ci := 10) (C := RX10) (T := TX10) (N := 8) hx hb hts iX10 hown hw rfl 1 (by decide) (hts _ tw_285) (fun _ h9 => h9) dX11_visit_36 f_v10n_X10_1 ?_
      refine lv_iload_n hx hb dX11_visit_39 rfl (lv_at hl 1 rfl) ?_
      refine t_calli (va_runV (As := [.int a1]) (rest := []) ⟨hx, hb, hml, hown, hts⟩ (t_X8_fetch l dC dI tys κ B w_3 hw.2.2.2.2 v10s k_v10s a1 (by omega) (by omega) v10b (by omega) (by omega) f_v10s_X8_1 H.size) (cwV 1 hts (gUV tw_854 tw_855 tw_856 tw_8 tw_857) rfl rfl rfl (by decide +kernel) ⟨(Nat.le_of_ble_eq_true rfl), (Nat.le_of_ble_eq_true rfl)⟩) ⟨cPre.blind, t_recv hw (ci := 8) k_v10s rfl rfl, cPre.use hw.2.1 hw.1 hw.2.2.1 hE⟩ rfl rfl hl.1 rfl (lv_room (Nat.le_of_ble_eq_true rfl)) dX11_visit_40 ⟨(Nat.le_of_ble_eq_true rfl), (Nat.le_of_ble_eq_true rfl)⟩) hw hA (fun _ _ h => h.1) (fun v40 w_4 H locs hp hw => ?_)
      obtain ⟨_, hm⟩ := hp
      have l_v40 := i32_lo v40
      have h_v40 := i32_hi v40
      have hM := hM.trans hm (by decide) (by decide)
      have f_a0_X11_5 := hm.1 _ _ _ _ f_a0_X11_5 (by decide)
      have f_v10n_X10_1 := hm.1 _ _ _ _ f_v10n_X10_1 (by decide)
      have f_a0_X11_7 := hm.1 _ _ _ _ f_a0_X11_7 (by decide)
      have f_v10s_X8_1 := hm.1 _ _ _ _ f_v10s_X8_1 (by decide)
      rw [hQ]
      refine W.widen (k := 0) (n := 0) (Nat.le_refl _) (Nat.le_refl _) ?_
      exact W.iret (v := v40) hx hb hr (fun t ht hW => ⟨⟨v40, w_4, rfl, ⟨hw.2.2.2.2, hM⟩, by rw [ht]; exact hw.2.1, va_K.moved hW.alike hw.1, hw.2.2.1⟩, hw.2.2.2.1.F ht⟩) hw.2.2.2.1.2.2 dX11_visit_43
    · simp only [fa_lt, fa_le, fa_eq, li_0] at c_13
      refine lv_iconst (v := (-1)) hx hb dX11_visit_16 (by decide) ?_
      rw [hQ]
      refine W.widen (k := 0) (n := 0) (Nat.le_refl _) (Nat.le_refl _) ?_
      exact W.iret (v := (-1)) hx hb hr (fun t ht hW => ⟨⟨(-1), w_2, rfl, ⟨hw.2.2.2.2, hM⟩, by rw [ht]; exact hw.2.1, va_K.moved hW.alike hw.1, hw.2.2.1⟩, hw.2.2.2.1.F ht⟩) hw.2.2.2.1.2.2 dX11_visit_17
set_option maxHeartbeats 4000000 in
set_option maxRecDepth 100000 in
theorem t_X11_votes (l : Launch) (dC : Nat → ClassId) (dI : Nat → Nat → Nat) (tys : List (ClassId × FieldType)) (κ : tK) (B : Nat) (ws : va_W) (hT : Ty κ tys B ws) (a0 : Nat) (k_a0 : κ a0 = some 11) (a1 : Int32) (a2 : Int32) (sz : Nat) : Met l yX11_votes (ws_u yX11_votes cX11_votes 3 (some .int)) ({ frames := 4, cells := 0, slots := 0, locals := 98 }) (va_Pc [.ref a0, .int a1, .int a2] (cPre (dC, dI) tys ws sz)) (va_Qi (fun (r : Int32) (w : va_W) => Ty κ tys B w ∧ Sm [(5, 0), (5, 1), (5, 5)] [33, 34, 35, 36, 42] κ ws w) (fun w t => cPost (dC, dI) tys w (va_A ws sz) t) (va_A ws sz)) 0 0 (va_A ws sz) := by
  refine Met.ofW (cc := cX11_votes) (maxL := 3) (ret := (some .int)) (by decide) rfl ?_
  intro p e s m args below meth c s₁ B0 hml hv
  obtain ⟨rfl, hsz, hP, hK, hD0, hE⟩ := hv
  have hx := B0.exec
  have hb := B0.bytes
  have hr := B0.returns
  have hts0 := atoms_spec (ws := ws_u yX11_votes cX11_votes 3 (some .int)) B0.pre
  have hts : ∀ w ∈ gT, w.before _ s = true := fun w h => hts0 w (List.mem_cons_of_mem _ h)
  have hown : s.vm.findClass RX11 = some m.cls := findClass_of_methodNamed B0.named
  have hlocks := B0.notSynchronized
  subst hsz
  have hD := hD0.self (sz := s.heap.size)
  generalize hAe : va_A ws s.heap.size = A at hD ⊢
  have hA : ∀ q : Nat, s.heap.size ≤ q → A q := fun q h => by rw [← hAe]; exact Or.inr h
  have hw : tW (dC, dI) tys κ B A s ws s.heap [] := ⟨hK, hP, hD, va_S.rf, hT⟩
  have hM : Sm [(5, 0), (5, 1), (5, 5)] [33, 34, 35, 36, 42] κ ws ws := Sm.rf
  clear hP hK hD hD0 hts0
  have l_a1 := i32_lo a1
  have h_a1 := i32_hi a1
  have l_a2 := i32_lo a2
  have h_a2 := i32_hi a2
  have hl := lv_entry ([.ref a0, .int a1, .int a2]) (n := 3) (Nat.le_of_ble_eq_true rfl)
  rw [lg_entry_eq]
  generalize (lg_sl ([.ref a0, .int a1, .int a2]) ++ List.replicate (3 - (lg_sl ([.ref a0, .int a1, .int a2])).length) Slot.unset).toArray = ls at hl ⊢
  have hl : lv_has ls 3 [(0, .ref a0), (1, .int a1), (2, .int a2)] := hl
  refine t_start (fun QQ hQ => ?_)
  refine lv_aload_n hx hb dX11_votes_0 rfl (lv_at hl 0 rfl) ?_
  refine t_getr (k1 := 10) (ci := 11) (C := RX11) (T := TX11) (N := 12) hx hb hts iX11 hown hw k_a0 rfl rfl rfl 5 (by decide) (hts _ tw_428) (fun _ h9 => h9) dX11_votes_1 rfl (fun v1 k_v1 f_a0_X11_5 => ?_)
  refine t_getr (k1 := 0) (ci := 10) (C := RX10) (T := TX10) (N := 8) hx hb hts iX10 hown hw k_v1 rfl rfl rfl 0 (by decide) (hts _ tw_282) (fun _ h9 => h9) dX11_votes_4 rfl (fun v4 k_v4 f_v1_X10_0 => ?_)
  refine t_geti (ci := 0) (C := RX0) (T := TX0) (N := 16) hx hb hts iX0 hown hw k_v4 rfl rfl rfl 0 (by decide) (hts _ tw_69) (fun _ h9 => h9) dX11_votes_7 rfl (fun v7 l_v7 h_v7 f_v4_X0_0 => ?_)
  have l_v7 : 0 ≤ v7.toInt := l_v7
  have h_v7 : v7.toInt ≤ 1 := h_v7
  refine lv_if_eq (tgt := 35) hx hb dX11_votes_10 (by decide) (fun c_10 => ?_) (fun c_10 => ?_)
  · simp only [fa_lt, fa_le, fa_eq, li_0] at c_10
    refine lv_bipush (v := (-2)) hx hb dX11_votes_35 (by decide) ?_
    rw [hQ]
    refine W.widen (k := 0) (n := 0) (Nat.le_refl _) (Nat.le_refl _) ?_
    exact W.iret (v := (-2)) hx hb hr (fun t ht hW => ⟨⟨(-2), ws, rfl, ⟨hw.2.2.2.2, hM⟩, by rw [ht]; exact hw.2.1, va_K.moved hW.alike hw.1, hw.2.2.1⟩, hw.2.2.2.1.F ht⟩) hw.2.2.2.1.2.2 dX11_votes_37
  · simp only [fa_lt, fa_le, fa_eq, li_0] at c_10
    refine lv_iload_n hx hb dX11_votes_13 rfl (lv_at hl 2 rfl) ?_
    refine lv_if_lt (tgt := 35) hx hb dX11_votes_14 (by decide) (fun c_14 => ?_) (fun c_14 => ?_)
    · simp only [fa_lt, fa_le, fa_eq, li_0] at c_14
      refine lv_bipush (v := (-2)) hx hb dX11_votes_35 (by decide) ?_
      rw [hQ]
      refine W.widen (k := 0) (n := 0) (Nat.le_refl _) (Nat.le_refl _) ?_
      exact W.iret (v := (-2)) hx hb hr (fun t ht hW => ⟨⟨(-2), ws, rfl, ⟨hw.2.2.2.2, hM⟩, by rw [ht]; exact hw.2.1, va_K.moved hW.alike hw.1, hw.2.2.1⟩, hw.2.2.2.1.F ht⟩) hw.2.2.2.1.2.2 dX11_votes_37
    · simp only [fa_lt, fa_le, fa_eq, li_0] at c_14
      refine lv_iload_n hx hb dX11_votes_17 rfl (lv_at hl 2 rfl) ?_
      refine lv_iconst (v := 2) hx hb dX11_votes_18 (by decide) ?_
      refine lv_icmp_gt (tgt := 35) hx hb dX11_votes_19 (by decide) (fun c_19 => ?_) (fun c_19 => ?_)
      · simp only [fa_lt, fa_le, fa_eq, li_2] at c_19
        refine lv_bipush (v := (-2)) hx hb dX11_votes_35 (by decide) ?_
        rw [hQ]
        refine W.widen (k := 0) (n := 0) (Nat.le_refl _) (Nat.le_refl _) ?_
        exact W.iret (v := (-2)) hx hb hr (fun t ht hW => ⟨⟨(-2), ws, rfl, ⟨hw.2.2.2.2, hM⟩, by rw [ht]; exact hw.2.1, va_K.moved hW.alike hw.1, hw.2.2.1⟩, hw.2.2.2.1.F ht⟩) hw.2.2.2.1.2.2 dX11_votes_37
      · simp only [fa_lt, fa_le, fa_eq, li_2] at c_19
        refine lv_iload_n hx hb dX11_votes_22 rfl (lv_at hl 2 rfl) ?_
        refine lv_iconst (v := 2) hx hb dX11_votes_23 (by decide) ?_
        refine lv_icmp_eq (tgt := 38) hx hb dX11_votes_24 (by decide) (fun c_24 => ?_) (fun c_24 => ?_)
        · simp only [fa_lt, fa_le, fa_eq, li_2] at c_24
          refine lv_aload_n hx hb dX11_votes_38 rfl (lv_at hl 0 rfl) ?_
          refine t_getr (k1 := 5) (ci := 11) (C := RX11) (T := TX11) (N := 12) hx hb hts iX11 hown hw k_a0 rfl rfl rfl 8 (by decide) (hts _ tw_431) (fun _ h9 => h9) dX11_votes_39 rfl (fun v39 k_v39 f_a0_X11_8 => ?_)
          refine lv_aload_n hx hb dX11_votes_42 rfl (lv_at hl 0 rfl) ?_
          refine t_getk (ci := 11) (C := RX11) (T := TX11) (N := 12) hx hb hts iX11 hown hw rfl 5 (by decide) (hts _ tw_428) (fun _ h9 => h9) dX11_votes_43 f_a0_X11_5 ?_
          refine t_getk (ci := 10) (C := RX10) (T := TX10) (N := 8) hx hb hts iX10 hown hw rfl 0 (by decide) (hts _ tw_282) (fun _ h9 => h9) dX11_votes_46 f_v1_X10_0 ?_
          refine lv_aload_n hx hb dX11_votes_49 rfl (lv_at hl 0 rfl) ?_
          refine t_getk (ci := 11) (C := RX11) (T := TX11) (N := 12) hx hb hts iX11 hown hw rfl 5 (by decide) (hts _ tw_428) (fun _ h9 => h9) dX11_votes_50 f_a0_X11_5 ?_
          refine t_getr (k1 := 8) (ci := 10) (C := RX10) (T := TX10) (N := 8) hx hb hts iX10 hown hw k_v1 rfl rfl rfl 1 (by decide) (hts _ tw_285) (fun _ h9 => h9) dX11_votes_53 rfl (fun v53 k_v53 f_v1_X10_1 => ?_)
          refine lv_aload_n hx hb dX11_votes_56 rfl (lv_at hl 0 rfl) ?_
          refine t_callq (va_runV (As := []) (rest := [.ref v53, .ref v4, .ref v39]) ⟨hx, hb, hml, hown, hts⟩ (t_X11_ruleInForce l dC dI tys κ B ws hw.2.2.2.2 a0 k_a0 s.heap.size) (cwV 0 hts (gUV tw_756 tw_758 ts_1_3 tw_1 tw_759) rfl rfl rfl (by decide +kernel) ⟨(Nat.le_of_ble_eq_true rfl), (Nat.le_of_ble_eq_true rfl)⟩) ⟨cPre.blind, t_recv hw (ci := 11) k_a0 rfl rfl, cPre.use hw.2.1 hw.1 hw.2.2.1 hE⟩ rfl rfl hl.1 rfl (lv_room (Nat.le_of_ble_eq_true rfl)) dX11_votes_57 ⟨(Nat.le_of_ble_eq_true rfl), (Nat.le_of_ble_eq_true rfl)⟩) hw hA (fun _ _ h => h.2.1) (fun v57 w_1 H locs hp hw => ?_)
          obtain ⟨k_v57, _, hm⟩ := hp
          have hM := hM.trans hm (by decide) (by decide)
          have f_a0_X11_5 := hm.1 _ _ _ _ f_a0_X11_5 (by decide)
          have f_v1_X10_0 := hm.1 _ _ _ _ f_v1_X10_0 (by decide)
          have f_v4_X0_0 := hm.1 _ _ _ _ f_v4_X0_0 (by decide)
          have f_a0_X11_8 := hm.1 _ _ _ _ f_a0_X11_8 (by decide)
          have f_v1_X10_1 := hm.1 _ _ _ _ f_v1_X10_1 (by decide)
          refine t_callv (va_runV (As := [.ref v4, .ref v53, va_rf v57]) (rest := []) ⟨hx, hb, hml, hown, hts⟩ (t_X5_hold l dC dI tys κ B w_1 hw.2.2.2.2 v39 k_v39 v4 k_v4 v53 k_v53 v57 k_v57 H.size) (cwV 3 hts (gUV tw_903 tw_765 tw_766 tw_10 tw_767) rfl rfl rfl (by decide +kernel) ⟨(Nat.le_of_ble_eq_true rfl), (Nat.le_of_ble_eq_true rfl)⟩) ⟨cPre.blind, t_recv hw (ci := 5) k_v39 rfl rfl, cPre.use hw.2.1 hw.1 hw.2.2.1 hE⟩ rfl rfl hl.1 rfl (lv_room (Nat.le_of_ble_eq_true rfl)) dX11_votes_60 ⟨(Nat.le_of_ble_eq_true rfl), (Nat.le_of_ble_eq_true rfl)⟩) hw hA (fun _ h => h.1) (fun w_2 H locs hp hw => ?_)
          obtain ⟨_, hm⟩ := hp
          have hM := hM.trans hm (by decide) (by decide)
          have f_a0_X11_5 := hm.1 _ _ _ _ f_a0_X11_5 (by decide)
          have f_v1_X10_0 := hm.1 _ _ _ _ f_v1_X10_0 (by decide)
          have f_v4_X0_0 := hm.1 _ _ _ _ f_v4_X0_0 (by decide)
          have f_a0_X11_8 := hm.1 _ _ _ _ f_a0_X11_8 (by decide)
          have f_v1_X10_1 := hm.1 _ _ _ _ f_v1_X10_1 (by decide)
          refine lv_iload_n hx hb dX11_votes_63 rfl (lv_at hl 2 rfl) ?_
          · have cn_64_0 : ¬ a2.toInt = 0 := by omega
            have cn_64_1 : ¬ a2.toInt = 1 := by omega
            refine lv_lookup (off := 48) (tgt := 112) hx hb dX11_votes_64 (by decide) (by simp only [Op.lookupswitch.offset_cons, eq_false (Ne.symm cn_64_0), eq_false (Ne.symm cn_64_1), if_false] <;> rfl) (by decide) ?_
            refine lv_aload_n hx hb dX11_votes_112 rfl (lv_at hl 0 rfl) ?_
            refine t_getk (ci := 11) (C := RX11) (T := TX11) (N := 12) hx hb hts iX11 hown hw rfl 8 (by decide) (hts _ tw_431) (fun _ h9 => h9) dX11_votes_113 f_a0_X11_8 ?_
            refine t_geti (ci := 5) (C := RX5) (T := TX5) (N := 8) hx hb hts iX5 hown hw k_v39 rfl rfl rfl 5 (by decide) (hts _ tw_353) (fun _ h9 => h9) dX11_votes_116 rfl (fun v116 l_v116 h_v116 f_v39_X5_5 => ?_)
            have l_v116 : (-1) ≤ v116.toInt := l_v116
            have h_v116 : v116.toInt ≤ 5 := h_v116
            rw [hQ]
            refine W.widen (k := 0) (n := 0) (Nat.le_refl _) (Nat.le_refl _) ?_
            exact W.iret (v := v116) hx hb hr (fun t ht hW => ⟨⟨v116, w_2, rfl, ⟨hw.2.2.2.2, hM⟩, by rw [ht]; exact hw.2.1, va_K.moved hW.alike hw.1, hw.2.2.1⟩, hw.2.2.2.1.F ht⟩) hw.2.2.2.1.2.2 dX11_votes_119
        · simp only [fa_lt, fa_le, fa_eq, li_2] at c_24
          refine lv_aload_n hx hb dX11_votes_27 rfl (lv_at hl 0 rfl) ?_
          refine lv_iload_n hx hb dX11_votes_28 rfl (lv_at hl 1 rfl) ?_
          refine t_calli (va_runV (As := [.int a1]) (rest := []) ⟨hx, hb, hml, hown, hts⟩ (t_X11_isBoy l dC dI tys κ B ws hw.2.2.2.2 a0 k_a0 a1 s.heap.size) (cwV 1 hts (gUV tw_710 tw_712 ts_0_15 tw_1 tw_713) rfl rfl rfl (by decide +kernel) ⟨(Nat.le_of_ble_eq_true rfl), (Nat.le_of_ble_eq_true rfl)⟩) ⟨cPre.blind, t_recv hw (ci := 11) k_a0 rfl rfl, cPre.use hw.2.1 hw.1 hw.2.2.1 hE⟩ rfl rfl hl.1 rfl (lv_room (Nat.le_of_ble_eq_true rfl)) dX11_votes_29 ⟨(Nat.le_of_ble_eq_true rfl), (Nat.le_of_ble_eq_true rfl)⟩) hw hA (fun _ _ h => h.2.2.1) (fun v29 w_3 H locs hp hw => ?_)
          obtain ⟨l_v29, h_v29, _, hm, x_v29_0⟩ := hp
          have hM := hM.trans hm (by decide) (by decide)
          have f_a0_X11_5 := hm.1 _ _ _ _ f_a0_X11_5 (by decide)
          have f_v1_X10_0 := hm.1 _ _ _ _ f_v1_X10_0 (by decide)
          have f_v4_X0_0 := hm.1 _ _ _ _ f_v4_X0_0 (by decide)
          refine lv_if_ne (tgt := 38) hx hb dX11_votes_32 (by decide) (fun c_32 => ?_) (fun c_32 => ?_)
          · simp only [fa_lt, fa_le, fa_eq, li_0] at c_32
            refine lv_aload_n hx hb dX11_votes_38 rfl (lv_at hl 0 rfl) ?_
            refine t_getr (k1 := 5) (ci := 11) (C := RX11) (T := TX11) (N := 12) hx hb hts iX11 hown hw k_a0 rfl rfl rfl 8 (by decide) (hts _ tw_431) (fun _ h9 => h9) dX11_votes_39 rfl (fun v39 k_v39 f_a0_X11_8 => ?_)
            refine lv_aload_n hx hb dX11_votes_42 rfl (lv_at hl 0 rfl) ?_
            refine t_getk (ci := 11) (C := RX11) (T := TX11) (N := 12) hx hb hts iX11 hown hw rfl 5 (by decide) (hts _ tw_428) (fun _ h9 => h9) dX11_votes_43 f_a0_X11_5 ?_
            refine t_getk (ci := 10) (C := RX10) (T := TX10) (N := 8) hx hb hts iX10 hown hw rfl 0 (by decide) (hts _ tw_282) (fun _ h9 => h9) dX11_votes_46 f_v1_X10_0 ?_
            refine lv_aload_n hx hb dX11_votes_49 rfl (lv_at hl 0 rfl) ?_
            refine t_getk (ci := 11) (C := RX11) (T := TX11) (N := 12) hx hb hts iX11 hown hw rfl 5 (by decide) (hts _ tw_428) (fun _ h9 => h9) dX11_votes_50 f_a0_X11_5 ?_
            refine t_getr (k1 := 8) (ci := 10) (C := RX10) (T := TX10) (N := 8) hx hb hts iX10 hown hw k_v1 rfl rfl rfl 1 (by decide) (hts _ tw_285) (fun _ h9 => h9) dX11_votes_53 rfl (fun v53 k_v53 f_v1_X10_1 => ?_)
            refine lv_aload_n hx hb dX11_votes_56 rfl (lv_at hl 0 rfl) ?_
            refine t_callq (va_runV (As := []) (rest := [.ref v53, .ref v4, .ref v39]) ⟨hx, hb, hml, hown, hts⟩ (t_X11_ruleInForce l dC dI tys κ B w_3 hw.2.2.2.2 a0 k_a0 H.size) (cwV 0 hts (gUV tw_756 tw_758 ts_1_3 tw_1 tw_759) rfl rfl rfl (by decide +kernel) ⟨(Nat.le_of_ble_eq_true rfl), (Nat.le_of_ble_eq_true rfl)⟩) ⟨cPre.blind, t_recv hw (ci := 11) k_a0 rfl rfl, cPre.use hw.2.1 hw.1 hw.2.2.1 hE⟩ rfl rfl hl.1 rfl (lv_room (Nat.le_of_ble_eq_true rfl)) dX11_votes_57 ⟨(Nat.le_of_ble_eq_true rfl), (Nat.le_of_ble_eq_true rfl)⟩) hw hA (fun _ _ h => h.2.1) (fun v57 w_4 H locs hp hw => ?_)
            obtain ⟨k_v57, _, hm⟩ := hp
            have hM := hM.trans hm (by decide) (by decide)
            have f_a0_X11_5 := hm.1 _ _ _ _ f_a0_X11_5 (by decide)
            have f_v1_X10_0 := hm.1 _ _ _ _ f_v1_X10_0 (by decide)
            have f_v4_X0_0 := hm.1 _ _ _ _ f_v4_X0_0 (by decide)
            have f_a0_X11_8 := hm.1 _ _ _ _ f_a0_X11_8 (by decide)
            have f_v1_X10_1 := hm.1 _ _ _ _ f_v1_X10_1 (by decide)
            refine t_callv (va_runV (As := [.ref v4, .ref v53, va_rf v57]) (rest := []) ⟨hx, hb, hml, hown, hts⟩ (t_X5_hold l dC dI tys κ B w_4 hw.2.2.2.2 v39 k_v39 v4 k_v4 v53 k_v53 v57 k_v57 H.size) (cwV 3 hts (gUV tw_903 tw_765 tw_766 tw_10 tw_767) rfl rfl rfl (by decide +kernel) ⟨(Nat.le_of_ble_eq_true rfl), (Nat.le_of_ble_eq_true rfl)⟩) ⟨cPre.blind, t_recv hw (ci := 5) k_v39 rfl rfl, cPre.use hw.2.1 hw.1 hw.2.2.1 hE⟩ rfl rfl hl.1 rfl (lv_room (Nat.le_of_ble_eq_true rfl)) dX11_votes_60 ⟨(Nat.le_of_ble_eq_true rfl), (Nat.le_of_ble_eq_true rfl)⟩) hw hA (fun _ h => h.1) (fun w_5 H locs hp hw => ?_)
            obtain ⟨_, hm⟩ := hp
            have hM := hM.trans hm (by decide) (by decide)
            have f_a0_X11_5 := hm.1 _ _ _ _ f_a0_X11_5 (by decide)
            have f_v1_X10_0 := hm.1 _ _ _ _ f_v1_X10_0 (by decide)
            have f_v4_X0_0 := hm.1 _ _ _ _ f_v4_X0_0 (by decide)
            have f_a0_X11_8 := hm.1 _ _ _ _ f_a0_X11_8 (by decide)
            have f_v1_X10_1 := hm.1 _ _ _ _ f_v1_X10_1 (by decide)
            refine lv_iload_n hx hb dX11_votes_63 rfl (lv_at hl 2 rfl) ?_
            rcases Classical.em (a2.toInt = 0) with c_64_0 | c_64_0
            · refine lv_lookup (off := 28) (tgt := 92) hx hb dX11_votes_64 (by decide) (by rw [c_64_0] <;> rfl) (by decide) ?_
              refine lv_aload_n hx hb dX11_votes_92 rfl (lv_at hl 0 rfl) ?_
              refine t_getk (ci := 11) (C := RX11) (T := TX11) (N := 12) hx hb hts iX11 hown hw rfl 8 (by decide) (hts _ tw_431) (fun _ h9 => h9) dX11_votes_93 f_a0_X11_8 ?_
              refine t_getr (k1 := 34) (ci := 5) (C := RX5) (T := TX5) (N := 8) hx hb hts iX5 hown hw k_v39 rfl rfl rfl 3 (by decide) (hts _ tw_348) (fun _ h9 => h9) dX11_votes_96 rfl (fun v96 k_v96 f_v39_X5_3 => ?_)
              refine lv_iload_n hx hb dX11_votes_99 rfl (lv_at hl 1 rfl) ?_
              refine t_iald hx hb hw k_v96 rfl rfl (by omega) (show a1.toInt < 6 by omega) dX11_votes_100 (fun v100 r_v100 s_v100 q_v100 => ?_)
              have l_v100 : (-1) ≤ v100.toInt := r_v100
              have h_v100 : v100.toInt ≤ 5 := s_v100
              rw [hQ]
              refine W.widen (k := 0) (n := 0) (Nat.le_refl _) (Nat.le_refl _) ?_
              exact W.iret (v := v100) hx hb hr (fun t ht hW => ⟨⟨v100, w_5, rfl, ⟨hw.2.2.2.2, hM⟩, by rw [ht]; exact hw.2.1, va_K.moved hW.alike hw.1, hw.2.2.1⟩, hw.2.2.2.1.F ht⟩) hw.2.2.2.1.2.2 dX11_votes_101
            rcases Classical.em (a2.toInt = 1) with c_64_1 | c_64_1
            · refine lv_lookup (off := 38) (tgt := 102) hx hb dX11_votes_64 (by decide) (by rw [c_64_1] <;> rfl) (by decide) ?_
              refine lv_aload_n hx hb dX11_votes_102 rfl (lv_at hl 0 rfl) ?_
              refine t_getk (ci := 11) (C := RX11) (T := TX11) (N := 12) hx hb hts iX11 hown hw rfl 8 (by decide) (hts _ tw_431) (fun _ h9 => h9) dX11_votes_103 f_a0_X11_8 ?_
              refine t_getr (k1 := 35) (ci := 5) (C := RX5) (T := TX5) (N := 8) hx hb hts iX5 hown hw k_v39 rfl rfl rfl 4 (by decide) (hts _ tw_350) (fun _ h9 => h9) dX11_votes_106 rfl (fun v106 k_v106 f_v39_X5_4 => ?_)
              refine lv_iload_n hx hb dX11_votes_109 rfl (lv_at hl 1 rfl) ?_
              refine t_iald hx hb hw k_v106 rfl rfl (by omega) (show a1.toInt < 6 by omega) dX11_votes_110 (fun v110 r_v110 s_v110 q_v110 => ?_)
              have l_v110 := i32_lo v110
              have h_v110 := i32_hi v110
              rw [hQ]
              refine W.widen (k := 0) (n := 0) (Nat.le_refl _) (Nat.le_refl _) ?_
              exact W.iret (v := v110) hx hb hr (fun t ht hW => ⟨⟨v110, w_5, rfl, ⟨hw.2.2.2.2, hM⟩, by rw [ht]; exact hw.2.1, va_K.moved hW.alike hw.1, hw.2.2.1⟩, hw.2.2.2.1.F ht⟩) hw.2.2.2.1.2.2 dX11_votes_111
            · refine lv_lookup (off := 48) (tgt := 112) hx hb dX11_votes_64 (by decide) (by simp only [Op.lookupswitch.offset_cons, eq_false (Ne.symm c_64_0), eq_false (Ne.symm c_64_1), if_false] <;> rfl) (by decide) ?_
              refine lv_aload_n hx hb dX11_votes_112 rfl (lv_at hl 0 rfl) ?_
              refine t_getk (ci := 11) (C := RX11) (T := TX11) (N := 12) hx hb hts iX11 hown hw rfl 8 (by decide) (hts _ tw_431) (fun _ h9 => h9) dX11_votes_113 f_a0_X11_8 ?_
              refine t_geti (ci := 5) (C := RX5) (T := TX5) (N := 8) hx hb hts iX5 hown hw k_v39 rfl rfl rfl 5 (by decide) (hts _ tw_353) (fun _ h9 => h9) dX11_votes_116 rfl (fun v116 l_v116 h_v116 f_v39_X5_5 => ?_)
              have l_v116 : (-1) ≤ v116.toInt := l_v116
              have h_v116 : v116.toInt ≤ 5 := h_v116
              rw [hQ]
              refine W.widen (k := 0) (n := 0) (Nat.le_refl _) (Nat.le_refl _) ?_
              exact W.iret (v := v116) hx hb hr (fun t ht hW => ⟨⟨v116, w_5, rfl, ⟨hw.2.2.2.2, hM⟩, by rw [ht]; exact hw.2.1, va_K.moved hW.alike hw.1, hw.2.2.1⟩, hw.2.2.2.1.F ht⟩) hw.2.2.2.1.2.2 dX11_votes_119
          · simp only [fa_lt, fa_le, fa_eq, li_0] at c_32
            refine lv_bipush (v := (-2)) hx hb dX11_votes_35 (by decide) ?_
            rw [hQ]
            refine W.widen (k := 0) (n := 0) (Nat.le_refl _) (Nat.le_refl _) ?_
            exact W.iret (v := (-2)) hx hb hr (fun t ht hW => ⟨⟨(-2), w_3, rfl, ⟨hw.2.2.2.2, hM⟩, by rw [ht]; exact hw.2.1, va_K.moved hW.alike hw.1, hw.2.2.1⟩, hw.2.2.2.1.F ht⟩) hw.2.2.2.1.2.2 dX11_votes_37
set_option maxHeartbeats 4000000 in
set_option maxRecDepth 100000 in
theorem t_X5_fewestToWinOver (l : Launch) (dC : Nat → ClassId) (dI : Nat → Nat → Nat) (tys : List (ClassId × FieldType)) (κ : tK) (B : Nat) (ws : va_W) (hT : Ty κ tys B ws) (a0 : Nat) (k_a0 : κ a0 = some 5) (a1 : Int32) (l_a1 : 0 ≤ a1.toInt) (h_a1 : a1.toInt ≤ 5) (sz : Nat) : Met l yX5_fewestToWinOver (ws_u yX5_fewestToWinOver cX5_fewestToWinOver 4 (some .int)) ({ frames := 2, cells := 0, slots := 0, locals := 47 }) (va_Pc [.ref a0, .int a1] (cPre (dC, dI) tys ws sz)) (va_Qi (fun (r : Int32) (w : va_W) => 0 ≤ r.toInt ∧ r.toInt ≤ 64 ∧ Ty κ tys B w ∧ Sm [] [35] κ ws w) (fun w t => cPost (dC, dI) tys w (va_A ws sz) t) (va_A ws sz)) 0 0 (va_A ws sz) := by
  refine Met.ofW (cc := cX5_fewestToWinOver) (maxL := 4) (ret := (some .int)) (by decide) rfl ?_
  intro p e s m args below meth c s₁ B0 hml hv
  obtain ⟨rfl, hsz, hP, hK, hD0, hE⟩ := hv
  have hx := B0.exec
  have hb := B0.bytes
  have hr := B0.returns
  have hts0 := atoms_spec (ws := ws_u yX5_fewestToWinOver cX5_fewestToWinOver 4 (some .int)) B0.pre
  have hts : ∀ w ∈ gT, w.before _ s = true := fun w h => hts0 w (List.mem_cons_of_mem _ h)
  have hown : s.vm.findClass RX5 = some m.cls := findClass_of_methodNamed B0.named
  have hlocks := B0.notSynchronized
  subst hsz
  have hD := hD0.self (sz := s.heap.size)
  generalize hAe : va_A ws s.heap.size = A at hD ⊢
  have hA : ∀ q : Nat, s.heap.size ≤ q → A q := fun q h => by rw [← hAe]; exact Or.inr h
  have hw : tW (dC, dI) tys κ B A s ws s.heap [] := ⟨hK, hP, hD, va_S.rf, hT⟩
  have hM : Sm [] [35] κ ws ws := Sm.rf
  clear hP hK hD hD0 hts0
  have hl := lv_entry ([.ref a0, .int a1]) (n := 4) (Nat.le_of_ble_eq_true rfl)
  rw [lg_entry_eq]
  generalize (lg_sl ([.ref a0, .int a1]) ++ List.replicate (4 - (lg_sl ([.ref a0, .int a1])).length) Slot.unset).toArray = ls at hl ⊢
  have hl : lv_has ls 4 [(0, .ref a0), (1, .int a1)] := hl
  refine t_start (fun QQ hQ => ?_)
  refine lv_iconst (v := 1) hx hb dX5_fewestToWinOver_0 (by decide) ?_
  refine lv_aload_n hx hb dX5_fewestToWinOver_1 rfl (lv_at hl 0 rfl) ?_
  refine t_geti (ci := 5) (C := RX5) (T := TX5) (N := 8) hx hb hts iX5 hown hw k_a0 rfl rfl rfl 0 (by decide) (hts _ tw_344) (fun _ h9 => h9) dX5_fewestToWinOver_2 rfl (fun v2 l_v2 h_v2 f_a0_X5_0 => ?_)
  have l_v2 : 0 ≤ v2.toInt := l_v2
  have h_v2 : v2.toInt ≤ 6 := h_v2
  refine lv_ishl hx hb dX5_fewestToWinOver_5 ?_
  refine lv_topi (fun v5 e_v5 => ?_)
  have ⟨l_v5, h_v5⟩ := sh_i e_v5 (by omega) (by omega)
  refine lv_iconst (v := 1) hx hb dX5_fewestToWinOver_6 (by decide) ?_
  refine lv_isub hx hb dX5_fewestToWinOver_7 ?_
  refine lv_topi (fun v7 e_v7 => ?_)
  have e_v7 : v7.toInt = v5.toInt - 1 := sb_i e_v7 rfl li_1 (by omega) (by omega)
  refine lv_istore_n (lv' := [(2, .int v7), (0, .ref a0), (1, .int a1)]) hx hb dX5_fewestToWinOver_8 rfl hl (by decide) rfl (fun ls hl => ?_)
  refine lv_iconst (v := 0) hx hb dX5_fewestToWinOver_9 (by decide) ?_
  refine lv_istore_n (lv' := [(3, .int 0), (2, .int v7), (0, .ref a0), (1, .int a1)]) hx hb dX5_fewestToWinOver_10 rfl hl (by decide) rfl (fun ls hl => ?_)
  have J11 : ∀ (n : Nat) (H : Heap) (locs : List Loc) (ls : Array Slot), (∃ (w11 : va_W) (p11_l2 : Int32) (p11_l3 : Int32), tW (dC, dI) tys κ B A s w11 H locs ∧ Sm [] [35] κ ws w11 ∧ 0 ≤ p11_l2.toInt ∧ p11_l2.toInt ≤ 64 ∧ 0 ≤ p11_l3.toInt ∧ p11_l3.toInt ≤ 64 ∧ fld w11 a0 5 0 (.int v2) ∧ lv_has ls 4 [(0, .ref a0), (1, .int a1), (2, .int p11_l2), (3, .int p11_l3)] ∧ (64 - p11_l3.toInt).toNat = n) → W p l e (headSpec (ws_u yX5_fewestToWinOver cX5_fewestToWinOver 4 (some .int)) ({ frames := 2, cells := 0, slots := 0, locals := 47 })).room s m ([.ref a0, .int a1] : List Value).toArray below meth c H locs 0 0 QQ (F0 m 11 ls []) := by
    refine loopT _ ?_
    intro n_11 H locs ls hI ih_11
    obtain ⟨w11, p11_l2, p11_l3, hw, hM, l_p11_l2, h_p11_l2, l_p11_l3, h_p11_l3, f_a0_X5_0, hl, hn_11⟩ := hI
    refine lv_iload_n hx hb dX5_fewestToWinOver_11 rfl (lv_at hl 3 rfl) ?_
    refine lv_iconst (v := 1) hx hb dX5_fewestToWinOver_12 (by decide) ?_
    refine lv_aload_n hx hb dX5_fewestToWinOver_13 rfl (lv_at hl 0 rfl) ?_
    refine t_getk (ci := 5) (C := RX5) (T := TX5) (N := 8) hx hb hts iX5 hown hw rfl 0 (by decide) (hts _ tw_344) (fun _ h9 => h9) dX5_fewestToWinOver_14 f_a0_X5_0 ?_
    refine lv_ishl hx hb dX5_fewestToWinOver_17 ?_
    refine lv_topi (fun v17 e_v17 => ?_)
    have ⟨l_v17, h_v17⟩ := sh_i e_v17 (by omega) (by omega)
    refine lv_icmp_ge (tgt := 50) hx hb dX5_fewestToWinOver_18 (by decide) (fun c_18 => ?_) (fun c_18 => ?_)
    · simp only [fa_lt, fa_le, fa_eq] at c_18
      refine lv_iload_n hx hb dX5_fewestToWinOver_50 rfl (lv_at hl 2 rfl) ?_
      rw [hQ]
      refine W.widen (k := 0) (n := 0) (Nat.le_refl _) (Nat.le_refl _) ?_
      exact W.iret (v := p11_l2) hx hb hr (fun t ht hW => ⟨⟨p11_l2, w11, rfl, ⟨(by omega), (by omega), hw.2.2.2.2, hM⟩, by rw [ht]; exact hw.2.1, va_K.moved hW.alike hw.1, hw.2.2.1⟩, hw.2.2.2.1.F ht⟩) hw.2.2.2.1.2.2 dX5_fewestToWinOver_51
    · simp only [fa_lt, fa_le, fa_eq] at c_18
      refine lv_iload_n hx hb dX5_fewestToWinOver_21 rfl (lv_at hl 3 rfl) ?_
      refine t_calli (va_runS (As := [.int p11_l3]) (rest := []) ⟨hx, hb, hml, hown, hts⟩ (t_J6_bitCount_0f7a4 l dC dI tys κ B w11 hw.2.2.2.2 p11_l3 H.size) (va_cwS 1 hts (gUS tw_772 tw_773 tw_21 tw_774) rfl rfl rfl (by decide +kernel) ⟨(Nat.le_of_ble_eq_true rfl), (Nat.le_of_ble_eq_true rfl)⟩) ⟨cPre.blind, cPre.use hw.2.1 hw.1 hw.2.2.1 hE⟩ rfl rfl hl.1 rfl (lv_room (Nat.le_of_ble_eq_true rfl)) dX5_fewestToWinOver_22 ⟨(Nat.le_of_ble_eq_true rfl), (Nat.le_of_ble_eq_true rfl)⟩) hw hA (fun _ _ h => h.2.2.1) (fun v22 w_1 H locs hp hw => ?_)
      obtain ⟨l_v22, h_v22, _, hm⟩ := hp
      have hM := hM.trans hm (by decide) (by decide)
      have f_a0_X5_0 := hm.1 _ _ _ _ f_a0_X5_0 (by decide)
      refine lv_iload_n hx hb dX5_fewestToWinOver_25 rfl (lv_at hl 2 rfl) ?_
      refine t_calli (va_runS (As := [.int p11_l2]) (rest := [.int v22]) ⟨hx, hb, hml, hown, hts⟩ (t_J6_bitCount_0f7a4 l dC dI tys κ B w_1 hw.2.2.2.2 p11_l2 H.size) (va_cwS 1 hts (gUS tw_772 tw_773 tw_21 tw_774) rfl rfl rfl (by decide +kernel) ⟨(Nat.le_of_ble_eq_true rfl), (Nat.le_of_ble_eq_true rfl)⟩) ⟨cPre.blind, cPre.use hw.2.1 hw.1 hw.2.2.1 hE⟩ rfl rfl hl.1 rfl (lv_room (Nat.le_of_ble_eq_true rfl)) dX5_fewestToWinOver_26 ⟨(Nat.le_of_ble_eq_true rfl), (Nat.le_of_ble_eq_true rfl)⟩) hw hA (fun _ _ h => h.2.2.1) (fun v26 w_2 H locs hp hw => ?_)
      obtain ⟨l_v26, h_v26, _, hm⟩ := hp
      have hM := hM.trans hm (by decide) (by decide)
      have f_a0_X5_0 := hm.1 _ _ _ _ f_a0_X5_0 (by decide)
      have J44 : ∀ (H : Heap) (locs : List Loc) (ls : Array Slot) (w44 : va_W) (p44_l2 : Int32), tW (dC, dI) tys κ B A s w44 H locs → Sm [] [35] κ ws w44 → 0 ≤ p44_l2.toInt → p44_l2.toInt ≤ 64 → fld w44 a0 5 0 (.int v2) → lv_has ls 4 [(0, .ref a0), (1, .int a1), (2, .int p44_l2), (3, .int p11_l3)] → W p l e (headSpec (ws_u yX5_fewestToWinOver cX5_fewestToWinOver 4 (some .int)) ({ frames := 2, cells := 0, slots := 0, locals := 47 })).room s m ([.ref a0, .int a1] : List Value).toArray below meth c H locs 0 0 QQ (F0 m 44 ls []) := by
        intro H locs ls w44 p44_l2 hw hM l_p44_l2 h_p44_l2 f_a0_X5_0 hl
        obtain ⟨v44, e_v44⟩ : ∃ y : Int32, y = p11_l3 + 1 := ⟨_, rfl⟩
        refine lv_iinc (v := v44) (lv' := [(3, .int v44), (0, .ref a0), (1, .int a1), (2, .int p44_l2)]) hx hb dX5_fewestToWinOver_44 hl (k := 3) rfl e_v44.symm (by decide) rfl (fun ls hl => ?_)
        have e_v44 : v44.toInt = p11_l3.toInt + 1 := ad_i e_v44 rfl li_1 (by omega) (by omega)
        refine lv_goto (tgt := 11) hx hb dX5_fewestToWinOver_47 (by decide) ?_
        exact ih_11 _ _ _ _ (by omega) ⟨w44, p44_l2, v44, hw, hM, (by omega), (by omega), (by omega), (by omega), f_a0_X5_0, (lv_sub hl [1, 2, 3, 0] rfl), rfl⟩
      refine lv_icmp_ge (tgt := 44) hx hb dX5_fewestToWinOver_29 (by decide) (fun c_29 => ?_) (fun c_29 => ?_)
      · simp only [fa_lt, fa_le, fa_eq] at c_29
        exact J44 _ _ _ w_2 p11_l2 hw hM (by omega) (by omega) f_a0_X5_0 (lv_sub hl [0, 1, 2, 3] rfl)
      · simp only [fa_lt, fa_le, fa_eq] at c_29
        refine lv_aload_n hx hb dX5_fewestToWinOver_32 rfl (lv_at hl 0 rfl) ?_
        refine lv_iload_n hx hb dX5_fewestToWinOver_33 rfl (lv_at hl 1 rfl) ?_
        refine lv_iload_n hx hb dX5_fewestToWinOver_34 rfl (lv_at hl 3 rfl) ?_
        refine t_calli (va_runV (As := [.int a1, .int p11_l3]) (rest := []) ⟨hx, hb, hml, hown, hts⟩ (t_X5_chosenWith l dC dI tys κ B w_2 hw.2.2.2.2 a0 k_a0 a1 (by omega) (by omega) p11_l3 (by omega) (by omega) H.size) (cwV 2 hts (gUV tw_804 tw_806 ts_1_8 tw_10 tw_807) rfl rfl rfl (by decide +kernel) ⟨(Nat.le_of_ble_eq_true rfl), (Nat.le_of_ble_eq_true rfl)⟩) ⟨cPre.blind, t_recv hw (ci := 5) k_a0 rfl rfl, cPre.use hw.2.1 hw.1 hw.2.2.1 hE⟩ rfl rfl hl.1 rfl (lv_room (Nat.le_of_ble_eq_true rfl)) dX5_fewestToWinOver_35 ⟨(Nat.le_of_ble_eq_true rfl), (Nat.le_of_ble_eq_true rfl)⟩) hw hA (fun _ _ h => h.2.2.1) (fun v35 w_3 H locs hp hw => ?_)
        obtain ⟨l_v35, h_v35, _, hm⟩ := hp
        have hM := hM.trans hm (by decide) (by decide)
        have f_a0_X5_0 := hm.1 _ _ _ _ f_a0_X5_0 (by decide)
        refine lv_iload_n hx hb dX5_fewestToWinOver_38 rfl (lv_at hl 1 rfl) ?_
        refine lv_icmp_ne (tgt := 44) hx hb dX5_fewestToWinOver_39 (by decide) (fun c_39 => ?_) (fun c_39 => ?_)
        · simp only [fa_lt, fa_le, fa_eq] at c_39
          exact J44 _ _ _ w_3 p11_l2 hw hM (by omega) (by omega) f_a0_X5_0 (lv_sub hl [0, 1, 2, 3] rfl)
        · simp only [fa_lt, fa_le, fa_eq] at c_39
          refine lv_iload_n hx hb dX5_fewestToWinOver_42 rfl (lv_at hl 3 rfl) ?_
          refine lv_istore_n (lv' := [(2, .int p11_l3), (0, .ref a0), (1, .int a1), (3, .int p11_l3)]) hx hb dX5_fewestToWinOver_43 rfl hl (by decide) rfl (fun ls hl => ?_)
          exact J44 _ _ _ w_3 p11_l3 hw hM (by omega) (by omega) f_a0_X5_0 (lv_sub hl [1, 2, 0, 3] rfl)
  exact J11 _ _ _ _ ⟨ws, v7, 0, hw, hM, (by omega), (by omega), (by decide), (by decide), f_a0_X5_0, (lv_sub hl [2, 3, 1, 0] rfl), rfl⟩
set_option maxHeartbeats 4000000 in
set_option maxRecDepth 100000 in
theorem t_X11_winOver (l : Launch) (dC : Nat → ClassId) (dI : Nat → Nat → Nat) (tys : List (ClassId × FieldType)) (κ : tK) (B : Nat) (ws : va_W) (hT : Ty κ tys B ws) (a0 : Nat) (k_a0 : κ a0 = some 11) (a1 : Int32) (a2 : Int32) (sz : Nat) : Met l yX11_winOver (ws_u yX11_winOver cX11_winOver 4 (some .int)) ({ frames := 4, cells := 0, slots := 0, locals := 98 }) (va_Pc [.ref a0, .int a1, .int a2] (cPre (dC, dI) tys ws sz)) (va_Qi (fun (r : Int32) (w : va_W) => (-1) ≤ r.toInt ∧ r.toInt ≤ 64 ∧ Ty κ tys B w ∧ Sm [(5, 0), (5, 1), (5, 5)] [33, 34, 35, 36, 42] κ ws w) (fun w t => cPost (dC, dI) tys w (va_A ws sz) t) (va_A ws sz)) 0 0 (va_A ws sz) := by
  refine Met.ofW (cc := cX11_winOver) (maxL := 4) (ret := (some .int)) (by decide) rfl ?_
  intro p e s m args below meth c s₁ B0 hml hv
  obtain ⟨rfl, hsz, hP, hK, hD0, hE⟩ := hv
  have hx := B0.exec
  have hb := B0.bytes
  have hr := B0.returns
  have hts0 := atoms_spec (ws := ws_u yX11_winOver cX11_winOver 4 (some .int)) B0.pre
  have hts : ∀ w ∈ gT, w.before _ s = true := fun w h => hts0 w (List.mem_cons_of_mem _ h)
  have hown : s.vm.findClass RX11 = some m.cls := findClass_of_methodNamed B0.named
  have hlocks := B0.notSynchronized
  subst hsz
  have hD := hD0.self (sz := s.heap.size)
  generalize hAe : va_A ws s.heap.size = A at hD ⊢
  have hA : ∀ q : Nat, s.heap.size ≤ q → A q := fun q h => by rw [← hAe]; exact Or.inr h
  have hw : tW (dC, dI) tys κ B A s ws s.heap [] := ⟨hK, hP, hD, va_S.rf, hT⟩
  have hM : Sm [(5, 0), (5, 1), (5, 5)] [33, 34, 35, 36, 42] κ ws ws := Sm.rf
  clear hP hK hD hD0 hts0
  have l_a1 := i32_lo a1
  have h_a1 := i32_hi a1
  have l_a2 := i32_lo a2
  have h_a2 := i32_hi a2
  have hl := lv_entry ([.ref a0, .int a1, .int a2]) (n := 4) (Nat.le_of_ble_eq_true rfl)
  rw [lg_entry_eq]
  generalize (lg_sl ([.ref a0, .int a1, .int a2]) ++ List.replicate (4 - (lg_sl ([.ref a0, .int a1, .int a2])).length) Slot.unset).toArray = ls at hl ⊢
  have hl : lv_has ls 4 [(0, .ref a0), (1, .int a1), (2, .int a2)] := hl
  refine t_start (fun QQ hQ => ?_)
  refine lv_aload_n hx hb dX11_winOver_0 rfl (lv_at hl 0 rfl) ?_
  refine lv_iload_n hx hb dX11_winOver_1 rfl (lv_at hl 1 rfl) ?_
  refine t_calli (va_runV (As := [.int a1]) (rest := []) ⟨hx, hb, hml, hown, hts⟩ (t_X11_isSinging l dC dI tys κ B ws hw.2.2.2.2 a0 k_a0 a1 s.heap.size) (cwV 1 hts (gUV tw_878 tw_880 ts_1_15 tw_1 tw_881) rfl rfl rfl (by decide +kernel) ⟨(Nat.le_of_ble_eq_true rfl), (Nat.le_of_ble_eq_true rfl)⟩) ⟨cPre.blind, t_recv hw (ci := 11) k_a0 rfl rfl, cPre.use hw.2.1 hw.1 hw.2.2.1 hE⟩ rfl rfl hl.1 rfl (lv_room (Nat.le_of_ble_eq_true rfl)) dX11_winOver_2 ⟨(Nat.le_of_ble_eq_true rfl), (Nat.le_of_ble_eq_true rfl)⟩) hw hA (fun _ _ h => h.2.2.1) (fun v2 w_1 H locs hp hw => ?_)
  obtain ⟨l_v2, h_v2, _, hm, x_v2_0⟩ := hp
  have hM := hM.trans hm (by decide) (by decide)
  refine lv_if_eq (tgt := 17) hx hb dX11_winOver_5 (by decide) (fun c_5 => ?_) (fun c_5 => ?_)
  · simp only [fa_lt, fa_le, fa_eq, li_0] at c_5
    refine lv_iconst (v := (-1)) hx hb dX11_winOver_17 (by decide) ?_
    rw [hQ]
    refine W.widen (k := 0) (n := 0) (Nat.le_refl _) (Nat.le_refl _) ?_
    exact W.iret (v := (-1)) hx hb hr (fun t ht hW => ⟨⟨(-1), w_1, rfl, ⟨(by decide), (by decide), hw.2.2.2.2, hM⟩, by rw [ht]; exact hw.2.1, va_K.moved hW.alike hw.1, hw.2.2.1⟩, hw.2.2.2.1.F ht⟩) hw.2.2.2.1.2.2 dX11_winOver_18
  · simp only [fa_lt, fa_le, fa_eq, li_0] at c_5
    refine lv_iload_n hx hb dX11_winOver_8 rfl (lv_at hl 2 rfl) ?_
    refine lv_if_lt (tgt := 17) hx hb dX11_winOver_9 (by decide) (fun c_9 => ?_) (fun c_9 => ?_)
    · simp only [fa_lt, fa_le, fa_eq, li_0] at c_9
      refine lv_iconst (v := (-1)) hx hb dX11_winOver_17 (by decide) ?_
      rw [hQ]
      refine W.widen (k := 0) (n := 0) (Nat.le_refl _) (Nat.le_refl _) ?_
      exact W.iret (v := (-1)) hx hb hr (fun t ht hW => ⟨⟨(-1), w_1, rfl, ⟨(by decide), (by decide), hw.2.2.2.2, hM⟩, by rw [ht]; exact hw.2.1, va_K.moved hW.alike hw.1, hw.2.2.1⟩, hw.2.2.2.1.F ht⟩) hw.2.2.2.1.2.2 dX11_winOver_18
    · simp only [fa_lt, fa_le, fa_eq, li_0] at c_9
      refine lv_iload_n hx hb dX11_winOver_12 rfl (lv_at hl 2 rfl) ?_
      refine lv_iconst (v := 1) hx hb dX11_winOver_13 (by decide) ?_
      refine lv_icmp_le (tgt := 19) hx hb dX11_winOver_14 (by decide) (fun c_14 => ?_) (fun c_14 => ?_)
      · simp only [fa_lt, fa_le, fa_eq, li_1] at c_14
        refine lv_aload_n hx hb dX11_winOver_19 rfl (lv_at hl 0 rfl) ?_
        refine t_getr (k1 := 5) (ci := 11) (C := RX11) (T := TX11) (N := 12) hx hb hts iX11 hown hw k_a0 rfl rfl rfl 8 (by decide) (hts _ tw_431) (fun _ h9 => h9) dX11_winOver_20 rfl (fun v20 k_v20 f_a0_X11_8 => ?_)
        refine lv_aload_n hx hb dX11_winOver_23 rfl (lv_at hl 0 rfl) ?_
        refine t_getr (k1 := 10) (ci := 11) (C := RX11) (T := TX11) (N := 12) hx hb hts iX11 hown hw k_a0 rfl rfl rfl 5 (by decide) (hts _ tw_428) (fun _ h9 => h9) dX11_winOver_24 rfl (fun v24 k_v24 f_a0_X11_5 => ?_)
        refine t_getr (k1 := 0) (ci := 10) (C := RX10) (T := TX10) (N := 8) hx hb hts iX10 hown hw k_v24 rfl rfl rfl 0 (by decide) (hts _ tw_282) (fun _ h9 => h9) dX11_winOver_27 rfl (fun v27 k_v27 f_v24_X10_0 => ?_)
        refine lv_aload_n hx hb dX11_winOver_30 rfl (lv_at hl 0 rfl) ?_
        refine t_getk (ci := 11) (C := RX11) (T := TX11) (N := 12) hx hb hts iX11 hown hw rfl 5 (by decide) (hts _ tw_428) (fun _ h9 => h9) dX11_winOver_31 f_a0_X11_5 ?_
        refine t_getr (k1 := 8) (ci := 10) (C := RX10) (T := TX10) (N := 8) hx hb hts iX10 hown hw k_v24 rfl rfl rfl 1 (by decide) (hts _ tw_285) (fun _ h9 => h9) dX11_winOver_34 rfl (fun v34 k_v34 f_v24_X10_1 => ?_)
        refine lv_aload_n hx hb dX11_winOver_37 rfl (lv_at hl 0 rfl) ?_
        refine t_callq (va_runV (As := []) (rest := [.ref v34, .ref v27, .ref v20]) ⟨hx, hb, hml, hown, hts⟩ (t_X11_ruleInForce l dC dI tys κ B w_1 hw.2.2.2.2 a0 k_a0 H.size) (cwV 0 hts (gUV tw_756 tw_758 ts_1_3 tw_1 tw_759) rfl rfl rfl (by decide +kernel) ⟨(Nat.le_of_ble_eq_true rfl), (Nat.le_of_ble_eq_true rfl)⟩) ⟨cPre.blind, t_recv hw (ci := 11) k_a0 rfl rfl, cPre.use hw.2.1 hw.1 hw.2.2.1 hE⟩ rfl rfl hl.1 rfl (lv_room (Nat.le_of_ble_eq_true rfl)) dX11_winOver_38 ⟨(Nat.le_of_ble_eq_true rfl), (Nat.le_of_ble_eq_true rfl)⟩) hw hA (fun _ _ h => h.2.1) (fun v38 w_2 H locs hp hw => ?_)
        obtain ⟨k_v38, _, hm⟩ := hp
        have hM := hM.trans hm (by decide) (by decide)
        have f_a0_X11_8 := hm.1 _ _ _ _ f_a0_X11_8 (by decide)
        have f_a0_X11_5 := hm.1 _ _ _ _ f_a0_X11_5 (by decide)
        have f_v24_X10_0 := hm.1 _ _ _ _ f_v24_X10_0 (by decide)
        have f_v24_X10_1 := hm.1 _ _ _ _ f_v24_X10_1 (by decide)
        refine t_callv (va_runV (As := [.ref v27, .ref v34, va_rf v38]) (rest := []) ⟨hx, hb, hml, hown, hts⟩ (t_X5_hold l dC dI tys κ B w_2 hw.2.2.2.2 v20 k_v20 v27 k_v27 v34 k_v34 v38 k_v38 H.size) (cwV 3 hts (gUV tw_903 tw_765 tw_766 tw_10 tw_767) rfl rfl rfl (by decide +kernel) ⟨(Nat.le_of_ble_eq_true rfl), (Nat.le_of_ble_eq_true rfl)⟩) ⟨cPre.blind, t_recv hw (ci := 5) k_v20 rfl rfl, cPre.use hw.2.1 hw.1 hw.2.2.1 hE⟩ rfl rfl hl.1 rfl (lv_room (Nat.le_of_ble_eq_true rfl)) dX11_winOver_41 ⟨(Nat.le_of_ble_eq_true rfl), (Nat.le_of_ble_eq_true rfl)⟩) hw hA (fun _ h => h.1) (fun w_3 H locs hp hw => ?_)
        obtain ⟨_, hm⟩ := hp
        have hM := hM.trans hm (by decide) (by decide)
        have f_a0_X11_8 := hm.1 _ _ _ _ f_a0_X11_8 (by decide)
        have f_a0_X11_5 := hm.1 _ _ _ _ f_a0_X11_5 (by decide)
        have f_v24_X10_0 := hm.1 _ _ _ _ f_v24_X10_0 (by decide)
        have f_v24_X10_1 := hm.1 _ _ _ _ f_v24_X10_1 (by decide)
        refine lv_aload_n hx hb dX11_winOver_44 rfl (lv_at hl 0 rfl) ?_
        refine t_getk (ci := 11) (C := RX11) (T := TX11) (N := 12) hx hb hts iX11 hown hw rfl 8 (by decide) (hts _ tw_431) (fun _ h9 => h9) dX11_winOver_45 f_a0_X11_8 ?_
        refine lv_iload_n hx hb dX11_winOver_48 rfl (lv_at hl 1 rfl) ?_
        refine t_calli (va_runV (As := [.int a1]) (rest := []) ⟨hx, hb, hml, hown, hts⟩ (t_X5_fewestToWinOver l dC dI tys κ B w_3 hw.2.2.2.2 v20 k_v20 a1 (by omega) (by omega) H.size) (cwV 1 hts (gUV tw_945 tw_946 tw_947 tw_10 tw_948) rfl rfl rfl (by decide +kernel) ⟨(Nat.le_of_ble_eq_true rfl), (Nat.le_of_ble_eq_true rfl)⟩) ⟨cPre.blind, t_recv hw (ci := 5) k_v20 rfl rfl, cPre.use hw.2.1 hw.1 hw.2.2.1 hE⟩ rfl rfl hl.1 rfl (lv_room (Nat.le_of_ble_eq_true rfl)) dX11_winOver_49 ⟨(Nat.le_of_ble_eq_true rfl), (Nat.le_of_ble_eq_true rfl)⟩) hw hA (fun _ _ h => h.2.2.1) (fun v49 w_4 H locs hp hw => ?_)
        obtain ⟨l_v49, h_v49, _, hm⟩ := hp
        have hM := hM.trans hm (by decide) (by decide)
        have f_a0_X11_8 := hm.1 _ _ _ _ f_a0_X11_8 (by decide)
        have f_a0_X11_5 := hm.1 _ _ _ _ f_a0_X11_5 (by decide)
        have f_v24_X10_0 := hm.1 _ _ _ _ f_v24_X10_0 (by decide)
        have f_v24_X10_1 := hm.1 _ _ _ _ f_v24_X10_1 (by decide)
        refine lv_istore_n (lv' := [(3, .int v49), (0, .ref a0), (1, .int a1), (2, .int a2)]) hx hb dX11_winOver_52 rfl hl (by decide) rfl (fun ls hl => ?_)
        refine lv_iload_n hx hb dX11_winOver_53 rfl (lv_at hl 3 rfl) ?_
        refine lv_if_ne (tgt := 64) hx hb dX11_winOver_54 (by decide) (fun c_54 => ?_) (fun c_54 => ?_)
        · simp only [fa_lt, fa_le, fa_eq, li_0] at c_54
          refine lv_iload_n hx hb dX11_winOver_64 rfl (lv_at hl 0 rfl) ?_
          rw [hQ]
          refine W.widen (k := 0) (n := 0) (Nat.le_refl _) (Nat.le_refl _) ?_
          exact W.iret (v := v49) hx hb hr (fun t ht hW => ⟨⟨v49, w_4, rfl, ⟨(by omega), (by omega), hw.2.2.2.2, hM⟩, by rw [ht]; exact hw.2.1, va_K.moved hW.alike hw.1, hw.2.2.1⟩, hw.2.2.2.1.F ht⟩) hw.2.2.2.1.2.2 dX11_winOver_65
        · simp only [fa_lt, fa_le, fa_eq, li_0] at c_54
          refine lv_iload_n hx hb dX11_winOver_57 rfl (lv_at hl 0 rfl) ?_
          refine t_calli (va_runS (As := [.int v49]) (rest := []) ⟨hx, hb, hml, hown, hts⟩ (t_J6_bitCount_0f7a4 l dC dI tys κ B w_4 hw.2.2.2.2 v49 H.size) (va_cwS 1 hts (gUS tw_949 tw_773 tw_21 tw_774) rfl rfl rfl (by decide +kernel) ⟨(Nat.le_of_ble_eq_true rfl), (Nat.le_of_ble_eq_true rfl)⟩) ⟨cPre.blind, cPre.use hw.2.1 hw.1 hw.2.2.1 hE⟩ rfl rfl hl.1 rfl (lv_room (Nat.le_of_ble_eq_true rfl)) dX11_winOver_58 ⟨(Nat.le_of_ble_eq_true rfl), (Nat.le_of_ble_eq_true rfl)⟩) hw hA (fun _ _ h => h.2.2.1) (fun v58 w_5 H locs hp hw => ?_)
          obtain ⟨l_v58, h_v58, _, hm⟩ := hp
          have hM := hM.trans hm (by decide) (by decide)
          have f_a0_X11_8 := hm.1 _ _ _ _ f_a0_X11_8 (by decide)
          have f_a0_X11_5 := hm.1 _ _ _ _ f_a0_X11_5 (by decide)
          have f_v24_X10_0 := hm.1 _ _ _ _ f_v24_X10_0 (by decide)
          have f_v24_X10_1 := hm.1 _ _ _ _ f_v24_X10_1 (by decide)
          refine lv_goto (tgt := 65) hx hb dX11_winOver_61 (by decide) ?_
          rw [hQ]
          refine W.widen (k := 0) (n := 0) (Nat.le_refl _) (Nat.le_refl _) ?_
          exact W.iret (v := v58) hx hb hr (fun t ht hW => ⟨⟨v58, w_5, rfl, ⟨(by omega), (by omega), hw.2.2.2.2, hM⟩, by rw [ht]; exact hw.2.1, va_K.moved hW.alike hw.1, hw.2.2.1⟩, hw.2.2.2.1.F ht⟩) hw.2.2.2.1.2.2 dX11_winOver_65
      · simp only [fa_lt, fa_le, fa_eq, li_1] at c_14
        refine lv_iconst (v := (-1)) hx hb dX11_winOver_17 (by decide) ?_
        rw [hQ]
        refine W.widen (k := 0) (n := 0) (Nat.le_refl _) (Nat.le_refl _) ?_
        exact W.iret (v := (-1)) hx hb hr (fun t ht hW => ⟨⟨(-1), w_1, rfl, ⟨(by decide), (by decide), hw.2.2.2.2, hM⟩, by rw [ht]; exact hw.2.1, va_K.moved hW.alike hw.1, hw.2.2.1⟩, hw.2.2.2.1.F ht⟩) hw.2.2.2.1.2.2 dX11_winOver_18
set_option maxHeartbeats 4000000 in
set_option maxRecDepth 100000 in
theorem t_X3_beginWinters (l : Launch) (dC : Nat → ClassId) (dI : Nat → Nat → Nat) (tys : List (ClassId × FieldType)) (κ : tK) (B : Nat) (ws : va_W) (hT : Ty κ tys B ws) (a0 : Nat) (k_a0 : κ a0 = some 3) (a1 : Int32) (sz : Nat) : Met l yX3_beginWinters (ws_u yX3_beginWinters cX3_beginWinters 2 none) ({ frames := 0, cells := 0, slots := 0, locals := 0 }) (va_Pc [.ref a0, .int a1] (cPre (dC, dI) tys ws sz)) (va_Qv (fun (w : va_W) => Ty κ tys B w ∧ Sm [(3, 1), (3, 2), (3, 3)] [] κ ws w) (fun w t => cPost (dC, dI) tys w (va_A ws sz) t) (va_A ws sz)) 0 0 (va_A ws sz) := by
  refine Met.ofW (cc := cX3_beginWinters) (maxL := 2) (ret := none) (by decide) rfl ?_
  intro p e s m args below meth c s₁ B0 hml hv
  obtain ⟨rfl, hsz, hP, hK, hD0, hE⟩ := hv
  have hx := B0.exec
  have hb := B0.bytes
  have hr := B0.returns
  have hts0 := atoms_spec (ws := ws_u yX3_beginWinters cX3_beginWinters 2 none) B0.pre
  have hts : ∀ w ∈ gT, w.before _ s = true := fun w h => hts0 w (List.mem_cons_of_mem _ h)
  have hown : s.vm.findClass RX3 = some m.cls := findClass_of_methodNamed B0.named
  have hlocks := B0.notSynchronized
  subst hsz
  have hD := hD0.self (sz := s.heap.size)
  generalize hAe : va_A ws s.heap.size = A at hD ⊢
  have hA : ∀ q : Nat, s.heap.size ≤ q → A q := fun q h => by rw [← hAe]; exact Or.inr h
  have hw : tW (dC, dI) tys κ B A s ws s.heap [] := ⟨hK, hP, hD, va_S.rf, hT⟩
  have hM : Sm [(3, 1), (3, 2), (3, 3)] [] κ ws ws := Sm.rf
  clear hP hK hD hD0 hts0
  have l_a1 := i32_lo a1
  have h_a1 := i32_hi a1
  have hl := lv_entry ([.ref a0, .int a1]) (n := 2) (Nat.le_of_ble_eq_true rfl)
  rw [lg_entry_eq]
  generalize (lg_sl ([.ref a0, .int a1]) ++ List.replicate (2 - (lg_sl ([.ref a0, .int a1])).length) Slot.unset).toArray = ls at hl ⊢
  have hl : lv_has ls 2 [(0, .ref a0), (1, .int a1)] := hl
  refine t_start (fun QQ hQ => ?_)
  refine lv_aload_n hx hb dX3_beginWinters_0 rfl (lv_at hl 0 rfl) ?_
  refine lv_iload_n hx hb dX3_beginWinters_1 rfl (lv_at hl 1 rfl) ?_
  refine lv_i2l hx hb dX3_beginWinters_2 rfl ?_
  refine lv_topl (fun v2 e_v2 => ?_)
  have t_v2 : v2.toInt = a1.toInt := by rw [e_v2, Int32.toInt_toInt64]
  refine t_put (ci := 3) (C := RX3) (T := TX3) (N := 4) (v := .long v2) hx hb hts iX3 tyX3 tyX3_ok nmX3 hown hw k_a0 rfl rfl rfl 1 (by decide) (hts _ tw_380) (fun _ h9 => h9) rfl (tyX3_ok 1 (by decide)) rfl rfl (okV.long rfl) dX3_beginWinters_3 (fun w_1 H locs hw u => ?_)
  have hM := hM.up1 u (by decide)
  have f_a0_X3_1 := u.2.2
  refine lv_aload_n hx hb dX3_beginWinters_6 rfl (lv_at hl 0 rfl) ?_
  refine lv_iconst (v := 0) hx hb dX3_beginWinters_7 (by decide) ?_
  refine t_put (ci := 3) (C := RX3) (T := TX3) (N := 4) (v := .int 0) hx hb hts iX3 tyX3 tyX3_ok nmX3 hown hw k_a0 rfl rfl rfl 2 (by decide) (hts _ tw_381) (fun _ h9 => h9) rfl (tyX3_ok 2 (by decide)) rfl rfl (okV.int rfl (by decide) (by decide)) dX3_beginWinters_8 (fun w_2 H locs hw u => ?_)
  have hM := hM.up1 u (by decide)
  have f_a0_X3_1 := u.1 _ _ _ _ f_a0_X3_1 (Or.inr (Or.inr (by decide)))
  have f_a0_X3_2 := u.2.2
  refine lv_aload_n hx hb dX3_beginWinters_11 rfl (lv_at hl 0 rfl) ?_
  refine lv_iconst (v := 0) hx hb dX3_beginWinters_12 (by decide) ?_
  refine t_put (ci := 3) (C := RX3) (T := TX3) (N := 4) (v := .int 0) hx hb hts iX3 tyX3 tyX3_ok nmX3 hown hw k_a0 rfl rfl rfl 3 (by decide) (hts _ tw_383) (fun _ h9 => h9) rfl (tyX3_ok 3 (by decide)) rfl rfl (okV.int rfl (by decide) (by decide)) dX3_beginWinters_13 (fun w_3 H locs hw u => ?_)
  have hM := hM.up1 u (by decide)
  have f_a0_X3_1 := u.1 _ _ _ _ f_a0_X3_1 (Or.inr (Or.inr (by decide)))
  have f_a0_X3_2 := u.1 _ _ _ _ f_a0_X3_2 (Or.inr (Or.inr (by decide)))
  have f_a0_X3_3 := u.2.2
  rw [hQ]
  refine W.widen (k := 0) (n := 0) (Nat.le_refl _) (Nat.le_refl _) ?_
  exact W.vret hx hb hr (fun t ht hW => ⟨⟨w_3, rfl, ⟨hw.2.2.2.2, hM⟩, by rw [ht]; exact hw.2.1, va_K.moved hW.alike hw.1, hw.2.2.1⟩, hw.2.2.2.1.F ht⟩) hw.2.2.2.1.2.2 dX3_beginWinters_16
set_option maxHeartbeats 4000000 in
set_option maxRecDepth 100000 in
theorem t_X3_draw (l : Launch) (dC : Nat → ClassId) (dI : Nat → Nat → Nat) (tys : List (ClassId × FieldType)) (κ : tK) (B : Nat) (ws : va_W) (hT : Ty κ tys B ws) (a0 : Nat) (k_a0 : κ a0 = some 3) (sz : Nat) : Met l yX3_draw (ws_u yX3_draw cX3_draw 1 (some .long)) ({ frames := 0, cells := 0, slots := 0, locals := 0 }) (va_Pc [.ref a0] (cPre (dC, dI) tys ws sz)) (va_Ql (fun (r : Int64) (w : va_W) => Ty κ tys B w ∧ Sm [(3, 1)] [] κ ws w) (fun w t => cPost (dC, dI) tys w (va_A ws sz) t) (va_A ws sz)) 0 0 (va_A ws sz) := by
  refine Met.ofW (cc := cX3_draw) (maxL := 1) (ret := (some .long)) (by decide) rfl ?_
  intro p e s m args below meth c s₁ B0 hml hv
  obtain ⟨rfl, hsz, hP, hK, hD0, hE⟩ := hv
  have hx := B0.exec
  have hb := B0.bytes
  have hr := B0.returns
  have hts0 := atoms_spec (ws := ws_u yX3_draw cX3_draw 1 (some .long)) B0.pre
  have hts : ∀ w ∈ gT, w.before _ s = true := fun w h => hts0 w (List.mem_cons_of_mem _ h)
  have hown : s.vm.findClass RX3 = some m.cls := findClass_of_methodNamed B0.named
  have hlocks := B0.notSynchronized
  subst hsz
  have hD := hD0.self (sz := s.heap.size)
  generalize hAe : va_A ws s.heap.size = A at hD ⊢
  have hA : ∀ q : Nat, s.heap.size ≤ q → A q := fun q h => by rw [← hAe]; exact Or.inr h
  have hw : tW (dC, dI) tys κ B A s ws s.heap [] := ⟨hK, hP, hD, va_S.rf, hT⟩
  have hM : Sm [(3, 1)] [] κ ws ws := Sm.rf
  clear hP hK hD hD0 hts0
  have hl := lv_entry ([.ref a0]) (n := 1) (Nat.le_of_ble_eq_true rfl)
  rw [lg_entry_eq]
  generalize (lg_sl ([.ref a0]) ++ List.replicate (1 - (lg_sl ([.ref a0])).length) Slot.unset).toArray = ls at hl ⊢
  have hl : lv_has ls 1 [(0, .ref a0)] := hl
  refine t_start (fun QQ hQ => ?_)
  refine lv_aload_n hx hb dX3_draw_0 rfl (lv_at hl 0 rfl) ?_
  refine lv_aload_n hx hb dX3_draw_1 rfl (lv_at hl 0 rfl) ?_
  refine t_getl (ci := 3) (C := RX3) (T := TX3) (N := 4) hx hb hts iX3 hown hw k_a0 rfl rfl rfl 1 (by decide) (hts _ tw_380) (fun _ h9 => h9) dX3_draw_2 rfl (fun v2 f_a0_X3_1 => ?_)
  refine lv_ldc2 (v := 1103515245) hx hb hown (hts _ tw_1087) dX3_draw_5 ?_
  refine lv_topl (fun v5 e_v5 => ?_)
  have t_v5 : v5.toInt = 1103515245 := by rw [e_v5]; decide
  refine lv_lmul hx hb dX3_draw_8 ?_
  refine lv_topl (fun v8 e_v8 => ?_)
  refine lv_ldc2 (v := 12345) hx hb hown (hts _ tw_1088) dX3_draw_9 ?_
  refine lv_topl (fun v9 e_v9 => ?_)
  have t_v9 : v9.toInt = 12345 := by rw [e_v9]; decide
  refine lv_ladd hx hb dX3_draw_12 ?_
  refine lv_topl (fun v12 e_v12 => ?_)
  refine lv_ldc2 (v := 2147483648) hx hb hown (hts _ tw_1089) dX3_draw_13 ?_
  refine lv_topl (fun v13 e_v13 => ?_)
  have t_v13 : v13.toInt = 2147483648 := by rw [e_v13]; decide
  refine lv_lrem hx hb dX3_draw_16 (by rw [e_v13]; decide) ?_
  refine lv_topl (fun v16 e_v16 => ?_)
  refine t_put (ci := 3) (C := RX3) (T := TX3) (N := 4) (v := .long v16) hx hb hts iX3 tyX3 tyX3_ok nmX3 hown hw k_a0 rfl rfl rfl 1 (by decide) (hts _ tw_380) (fun _ h9 => h9) rfl (tyX3_ok 1 (by decide)) rfl rfl (okV.long rfl) dX3_draw_17 (fun w_1 H locs hw u => ?_)
  have hM := hM.up1 u (by decide)
  have f_a0_X3_1 := u.2.2
  refine lv_aload_n hx hb dX3_draw_20 rfl (lv_at hl 0 rfl) ?_
  refine t_getk (ci := 3) (C := RX3) (T := TX3) (N := 4) hx hb hts iX3 hown hw rfl 1 (by decide) (hts _ tw_380) (fun _ h9 => h9) dX3_draw_21 f_a0_X3_1 ?_
  refine lv_ldc2 (v := 65536) hx hb hown (hts _ tw_1090) dX3_draw_24 ?_
  refine lv_topl (fun v24 e_v24 => ?_)
  have t_v24 : v24.toInt = 65536 := by rw [e_v24]; decide
  refine lv_ldiv hx hb dX3_draw_27 (by rw [e_v24]; decide) ?_
  refine lv_topl (fun v27 e_v27 => ?_)
  rw [hQ]
  refine W.widen (k := 0) (n := 0) (Nat.le_refl _) (Nat.le_refl _) ?_
  exact W.lret (v := v27) hx hb hr (fun t ht hW => ⟨⟨v27, w_1, rfl, ⟨hw.2.2.2.2, hM⟩, by rw [ht]; exact hw.2.1, va_K.moved hW.alike hw.1, hw.2.2.1⟩, hw.2.2.2.1.F ht⟩) hw.2.2.2.1.2.2 dX3_draw_28
set_option maxHeartbeats 4000000 in
set_option maxRecDepth 100000 in
theorem t_X3_drawVoices (l : Launch) (dC : Nat → ClassId) (dI : Nat → Nat → Nat) (tys : List (ClassId × FieldType)) (κ : tK) (B : Nat) (ws : va_W) (hT : Ty κ tys B ws) (a0 : Nat) (k_a0 : κ a0 = some 3) (a1 : Int32) (l_a1 : 0 ≤ a1.toInt) (h_a1 : a1.toInt ≤ 6) (a2 : Nat) (k_a2 : κ a2 = some 8) (a3 : Int32) (l_a3 : 0 ≤ a3.toInt) (h_a3 : a3.toInt ≤ 100) (sz : Nat) : Met l yX3_drawVoices (ws_u yX3_drawVoices cX3_drawVoices 5 none) ({ frames := 1, cells := 0, slots := 0, locals := 20 }) (va_Pc [.ref a0, .int a1, .ref a2, .int a3] (cPre (dC, dI) tys ws sz)) (va_Qv (fun (w : va_W) => Ty κ tys B w ∧ Sm [(3, 1)] [43] κ ws w) (fun w t => cPost (dC, dI) tys w (va_A ws sz) t) (va_A ws sz)) 0 0 (va_A ws sz) := by
  refine Met.ofW (cc := cX3_drawVoices) (maxL := 5) (ret := none) (by decide) rfl ?_
  intro p e s m args below meth c s₁ B0 hml hv
  obtain ⟨rfl, hsz, hP, hK, hD0, hE⟩ := hv
  have hx := B0.exec
  have hb := B0.bytes
  have hr := B0.returns
  have hts0 := atoms_spec (ws := ws_u yX3_drawVoices cX3_drawVoices 5 none) B0.pre
  have hts : ∀ w ∈ gT, w.before _ s = true := fun w h => hts0 w (List.mem_cons_of_mem _ h)
  have hown : s.vm.findClass RX3 = some m.cls := findClass_of_methodNamed B0.named
  have hlocks := B0.notSynchronized
  subst hsz
  have hD := hD0.self (sz := s.heap.size)
  generalize hAe : va_A ws s.heap.size = A at hD ⊢
  have hA : ∀ q : Nat, s.heap.size ≤ q → A q := fun q h => by rw [← hAe]; exact Or.inr h
  have hw : tW (dC, dI) tys κ B A s ws s.heap [] := ⟨hK, hP, hD, va_S.rf, hT⟩
  have hM : Sm [(3, 1)] [43] κ ws ws := Sm.rf
  clear hP hK hD hD0 hts0
  have hl := lv_entry ([.ref a0, .int a1, .ref a2, .int a3]) (n := 5) (Nat.le_of_ble_eq_true rfl)
  rw [lg_entry_eq]
  generalize (lg_sl ([.ref a0, .int a1, .ref a2, .int a3]) ++ List.replicate (5 - (lg_sl ([.ref a0, .int a1, .ref a2, .int a3])).length) Slot.unset).toArray = ls at hl ⊢
  have hl : lv_has ls 5 [(0, .ref a0), (1, .int a1), (2, .ref a2), (3, .int a3)] := hl
  refine t_start (fun QQ hQ => ?_)
  refine lv_iconst (v := 0) hx hb dX3_drawVoices_0 (by decide) ?_
  refine lv_istore (lv' := [(4, .int 0), (0, .ref a0), (1, .int a1), (2, .ref a2), (3, .int a3)]) hx hb dX3_drawVoices_1 hl (by decide) rfl (fun ls hl => ?_)
  have J3 : ∀ (n : Nat) (H : Heap) (locs : List Loc) (ls : Array Slot), (∃ (w3 : va_W) (p3_l4 : Int32), tW (dC, dI) tys κ B A s w3 H locs ∧ Sm [(3, 1)] [43] κ ws w3 ∧ 0 ≤ p3_l4.toInt ∧ p3_l4.toInt ≤ 6 ∧ lv_has ls 5 [(0, .ref a0), (1, .int a1), (2, .ref a2), (3, .int a3), (4, .int p3_l4)] ∧ (6 - p3_l4.toInt).toNat = n) → W p l e (headSpec (ws_u yX3_drawVoices cX3_drawVoices 5 none) ({ frames := 1, cells := 0, slots := 0, locals := 20 })).room s m ([.ref a0, .int a1, .ref a2, .int a3] : List Value).toArray below meth c H locs 0 0 QQ (F0 m 3 ls []) := by
    refine loopT _ ?_
    intro n_3 H locs ls hI ih_3
    obtain ⟨w3, p3_l4, hw, hM, l_p3_l4, h_p3_l4, hl, hn_3⟩ := hI
    refine lv_iload hx hb dX3_drawVoices_3 (lv_at hl 4 rfl) ?_
    refine lv_iload_n hx hb dX3_drawVoices_5 rfl (lv_at hl 1 rfl) ?_
    refine lv_icmp_ge (tgt := 47) hx hb dX3_drawVoices_6 (by decide) (fun c_6 => ?_) (fun c_6 => ?_)
    · simp only [fa_lt, fa_le, fa_eq] at c_6
      rw [hQ]
      refine W.widen (k := 0) (n := 0) (Nat.le_refl _) (Nat.le_refl _) ?_
      exact W.vret hx hb hr (fun t ht hW => ⟨⟨w3, rfl, ⟨hw.2.2.2.2, hM⟩, by rw [ht]; exact hw.2.1, va_K.moved hW.alike hw.1, hw.2.2.1⟩, hw.2.2.2.1.F ht⟩) hw.2.2.2.1.2.2 dX3_drawVoices_47
    · simp only [fa_lt, fa_le, fa_eq] at c_6
      refine lv_aload_n hx hb dX3_drawVoices_9 rfl (lv_at hl 2 rfl) ?_
      refine t_getr (k1 := 43) (ci := 8) (C := RX8) (T := TX8) (N := 13) hx hb hts iX8 hown hw k_a2 rfl rfl rfl 7 (by decide) (hts _ tw_240) (fun _ h9 => h9) dX3_drawVoices_10 rfl (fun v10 k_v10 f_a2_X8_7 => ?_)
      refine lv_iload hx hb dX3_drawVoices_13 (lv_at hl 4 rfl) ?_
      refine t_iald hx hb hw k_v10 rfl rfl (by omega) (show p3_l4.toInt < 6 by omega) dX3_drawVoices_15 (fun v15 r_v15 s_v15 q_v15 => ?_)
      have l_v15 := i32_lo v15
      have h_v15 := i32_hi v15
      have J41 : ∀ (H : Heap) (locs : List Loc) (ls : Array Slot) (w41 : va_W), tW (dC, dI) tys κ B A s w41 H locs → Sm [(3, 1)] [43] κ ws w41 → fld w41 a2 8 7 (.ref v10) → lv_has ls 5 [(0, .ref a0), (1, .int a1), (2, .ref a2), (3, .int a3), (4, .int p3_l4)] → W p l e (headSpec (ws_u yX3_drawVoices cX3_drawVoices 5 none) ({ frames := 1, cells := 0, slots := 0, locals := 20 })).room s m ([.ref a0, .int a1, .ref a2, .int a3] : List Value).toArray below meth c H locs 0 0 QQ (F0 m 41 ls []) := by
        intro H locs ls w41 hw hM f_a2_X8_7 hl
        obtain ⟨v41, e_v41⟩ : ∃ y : Int32, y = p3_l4 + 1 := ⟨_, rfl⟩
        refine lv_iinc (v := v41) (lv' := [(4, .int v41), (0, .ref a0), (1, .int a1), (2, .ref a2), (3, .int a3)]) hx hb dX3_drawVoices_41 hl (k := 4) rfl e_v41.symm (by decide) rfl (fun ls hl => ?_)
        have e_v41 : v41.toInt = p3_l4.toInt + 1 := ad_i e_v41 rfl li_1 (by omega) (by omega)
        refine lv_goto (tgt := 3) hx hb dX3_drawVoices_44 (by decide) ?_
        exact ih_3 _ _ _ _ (by omega) ⟨w41, v41, hw, hM, (by omega), (by omega), (lv_sub hl [1, 2, 3, 4, 0] rfl), rfl⟩
      refine lv_if_le (tgt := 41) hx hb dX3_drawVoices_16 (by decide) (fun c_16 => ?_) (fun c_16 => ?_)
      · simp only [fa_lt, fa_le, fa_eq, li_0] at c_16
        exact J41 _ _ _ w3 hw hM f_a2_X8_7 (lv_sub hl [0, 1, 2, 3, 4] rfl)
      · simp only [fa_lt, fa_le, fa_eq, li_0] at c_16
        refine lv_aload_n hx hb dX3_drawVoices_19 rfl (lv_at hl 0 rfl) ?_
        refine t_calll (va_runV (As := []) (rest := []) ⟨hx, hb, hml, hown, hts⟩ (t_X3_draw l dC dI tys κ B w3 hw.2.2.2.2 a0 k_a0 H.size) (cwV 0 hts (gUV tw_1083 tw_1085 ts_2_14 tw_11 tw_1086) rfl rfl rfl (by decide +kernel) ⟨(Nat.le_of_ble_eq_true rfl), (Nat.le_of_ble_eq_true rfl)⟩) ⟨cPre.blind, t_recv hw (ci := 3) k_a0 rfl rfl, cPre.use hw.2.1 hw.1 hw.2.2.1 hE⟩ rfl rfl hl.1 rfl (lv_room (Nat.le_of_ble_eq_true rfl)) dX3_drawVoices_20 ⟨(Nat.le_of_ble_eq_true rfl), (Nat.le_of_ble_eq_true rfl)⟩) hw hA (fun _ _ h => h.1) (fun v20 w_1 H locs hp hw => ?_)
        obtain ⟨_, hm⟩ := hp
        have hM := hM.trans hm (by decide) (by decide)
        have f_a2_X8_7 := hm.1 _ _ _ _ f_a2_X8_7 (by decide)
        refine lv_ldc2 (v := 100) hx hb hown (hts _ tw_1091) dX3_drawVoices_23 ?_
        refine lv_topl (fun v23 e_v23 => ?_)
        have t_v23 : v23.toInt = 100 := by rw [e_v23]; decide
        refine lv_lrem hx hb dX3_drawVoices_26 (by rw [e_v23]; decide) ?_
        refine lv_topl (fun v26 e_v26 => ?_)
        refine lv_iload_n hx hb dX3_drawVoices_27 rfl (lv_at hl 3 rfl) ?_
        refine lv_i2l hx hb dX3_drawVoices_28 rfl ?_
        refine lv_topl (fun v28 e_v28 => ?_)
        have t_v28 : v28.toInt = a3.toInt := by rw [e_v28, Int32.toInt_toInt64]
        refine W.lcmp hx hb dX3_drawVoices_29 ?_
        refine lv_topi (fun v29 e_v29 => ?_)
        have l_v29 := i32_lo v29
        have h_v29 := i32_hi v29
        have g_v29 := lgc e_v29
        refine lv_if_ge (tgt := 41) hx hb dX3_drawVoices_30 (by decide) (fun c_30 => ?_) (fun c_30 => ?_)
        · simp only [fa_lt, fa_le, fa_eq, li_0] at c_30
          exact J41 _ _ _ w_1 hw hM f_a2_X8_7 (lv_sub hl [0, 1, 2, 3, 4] rfl)
        · simp only [fa_lt, fa_le, fa_eq, li_0] at c_30
          refine lv_aload_n hx hb dX3_drawVoices_33 rfl (lv_at hl 2 rfl) ?_
          refine t_getk (ci := 8) (C := RX8) (T := TX8) (N := 13) hx hb hts iX8 hown hw rfl 7 (by decide) (hts _ tw_240) (fun _ h9 => h9) dX3_drawVoices_34 f_a2_X8_7 ?_
          refine lv_iload hx hb dX3_drawVoices_37 (lv_at hl 4 rfl) ?_
          refine lv_iconst (v := 0) hx hb dX3_drawVoices_39 (by decide) ?_
          refine t_iast hx hb hw k_v10 rfl rfl (by omega) (show p3_l4.toInt < 6 by omega) (i32_lo _) (i32_hi _) dX3_drawVoices_40 (fun w_2 H locs hw u => ?_)
          have hM := hM.up3 u k_v10 (by decide)
          have f_a2_X8_7 := u.1 _ _ _ _ f_a2_X8_7
          exact J41 _ _ _ w_2 hw hM f_a2_X8_7 (lv_sub hl [0, 1, 2, 3, 4] rfl)
  exact J3 _ _ _ _ ⟨ws, 0, hw, hM, (by decide), (by decide), (lv_sub hl [1, 2, 3, 4, 0] rfl), rfl⟩
set_option maxHeartbeats 4000000 in
set_option maxRecDepth 100000 in
theorem t_X3_passWinter (l : Launch) (dC : Nat → ClassId) (dI : Nat → Nat → Nat) (tys : List (ClassId × FieldType)) (κ : tK) (B : Nat) (ws : va_W) (hT : Ty κ tys B ws) (a0 : Nat) (k_a0 : κ a0 = some 3) (a1 : Nat) (k_a1 : κ a1 = some 0) (a2 : Nat) (k_a2 : κ a2 = some 8) (a3 : Option Nat) (k_a3 : ∀ q : Nat, a3 = some q → κ q = some 6) (a4 : Int32) (l_a4 : 1 ≤ a4.toInt) (h_a4 : a4.toInt ≤ 60) (a5 : Int32) (l_a5 : 0 ≤ a5.toInt) (h_a5 : a5.toInt ≤ 100) (sz : Nat) : Met l yX3_passWinter (ws_u yX3_passWinter cX3_passWinter 7 none) ({ frames := 5, cells := 0, slots := 0, locals := 122 }) (va_Pc [.ref a0, .ref a1, .ref a2, va_rf a3, .int a4, .int a5] (cPre (dC, dI) tys ws sz)) (va_Qv (fun (w : va_W) => Ty κ tys B w ∧ Sm [(3, 1), (3, 2), (3, 3), (5, 0), (5, 1), (5, 5), (8, 0), (8, 1), (8, 2), (8, 3), (8, 6)] [33, 34, 35, 36, 42, 43, 45, 46, 48] κ ws w) (fun w t => cPost (dC, dI) tys w (va_A ws sz) t) (va_A ws sz)) 0 0 (va_A ws sz) := by
  refine Met.ofW (cc := cX3_passWinter) (maxL := 7) (ret := none) (by decide) rfl ?_
  intro p e s m args below meth c s₁ B0 hml hv
  obtain ⟨rfl, hsz, hP, hK, hD0, hE⟩ := hv
  have hx := B0.exec
  have hb := B0.bytes
  have hr := B0.returns
  have hts0 := atoms_spec (ws := ws_u yX3_passWinter cX3_passWinter 7 none) B0.pre
  have hts : ∀ w ∈ gT, w.before _ s = true := fun w h => hts0 w (List.mem_cons_of_mem _ h)
  have hown : s.vm.findClass RX3 = some m.cls := findClass_of_methodNamed B0.named
  have hlocks := B0.notSynchronized
  subst hsz
  have hD := hD0.self (sz := s.heap.size)
  generalize hAe : va_A ws s.heap.size = A at hD ⊢
  have hA : ∀ q : Nat, s.heap.size ≤ q → A q := fun q h => by rw [← hAe]; exact Or.inr h
  have hw : tW (dC, dI) tys κ B A s ws s.heap [] := ⟨hK, hP, hD, va_S.rf, hT⟩
  have hM : Sm [(3, 1), (3, 2), (3, 3), (5, 0), (5, 1), (5, 5), (8, 0), (8, 1), (8, 2), (8, 3), (8, 6)] [33, 34, 35, 36, 42, 43, 45, 46, 48] κ ws ws := Sm.rf
  clear hP hK hD hD0 hts0
  rcases a3 with _ | a3
  · have hl := lv_entry ([.ref a0, .ref a1, .ref a2, .null, .int a4, .int a5]) (n := 7) (Nat.le_of_ble_eq_true rfl)
    show W p l e (headSpec (ws_u yX3_passWinter cX3_passWinter 7 none) ({ frames := 5, cells := 0, slots := 0, locals := 122 })).room s m ([.ref a0, .ref a1, .ref a2, va_rf none, .int a4, .int a5] : List Value).toArray below meth c s.heap [] 0 0 _ (entryFrame m ([.ref a0, .ref a1, .ref a2, .null, .int a4, .int a5] : List Value).toArray 7)
    rw [lg_entry_eq]
    generalize (lg_sl ([.ref a0, .ref a1, .ref a2, .null, .int a4, .int a5]) ++ List.replicate (7 - (lg_sl ([.ref a0, .ref a1, .ref a2, .null, .int a4, .int a5])).length) Slot.unset).toArray = ls at hl ⊢
    have hl : lv_has ls 7 [(0, .ref a0), (1, .ref a1), (2, .ref a2), (3, .null), (4, .int a4), (5, .int a5)] := hl
    refine t_start (fun QQ hQ => ?_)
    refine lv_iconst (v := 0) hx hb dX3_passWinter_0 (by decide) ?_
    refine lv_istore (lv' := [(6, .int 0), (0, .ref a0), (1, .ref a1), (2, .ref a2), (3, .null), (4, .int a4), (5, .int a5)]) hx hb dX3_passWinter_1 hl (by decide) rfl (fun ls hl => ?_)
    have J3 : ∀ (n : Nat) (H : Heap) (locs : List Loc) (ls : Array Slot), (∃ (w3 : va_W) (p3_l6 : Int32), tW (dC, dI) tys κ B A s w3 H locs ∧ Sm [(3, 1), (3, 2), (3, 3), (5, 0), (5, 1), (5, 5), (8, 0), (8, 1), (8, 2), (8, 3), (8, 6)] [33, 34, 35, 36, 42, 43, 45, 46, 48] κ ws w3 ∧ 0 ≤ p3_l6.toInt ∧ p3_l6.toInt ≤ 60 ∧ lv_has ls 7 [(0, .ref a0), (1, .ref a1), (2, .ref a2), (3, .null), (4, .int a4), (5, .int a5), (6, .int p3_l6)] ∧ (60 - p3_l6.toInt).toNat = n) → W p l e (headSpec (ws_u yX3_passWinter cX3_passWinter 7 none) ({ frames := 5, cells := 0, slots := 0, locals := 122 })).room s m ([.ref a0, .ref a1, .ref a2, va_rf none, .int a4, .int a5] : List Value).toArray below meth c H locs 0 0 QQ (F0 m 3 ls []) := by
      refine loopT _ ?_
      intro n_3 H locs ls hI ih_3
      obtain ⟨w3, p3_l6, hw, hM, l_p3_l6, h_p3_l6, hl, hn_3⟩ := hI
      refine lv_iload hx hb dX3_passWinter_3 (lv_at hl 6 rfl) ?_
      refine lv_iload hx hb dX3_passWinter_5 (lv_at hl 4 rfl) ?_
      refine lv_icmp_ge (tgt := 47) hx hb dX3_passWinter_7 (by decide) (fun c_7 => ?_) (fun c_7 => ?_)
      · simp only [fa_lt, fa_le, fa_eq] at c_7
        refine lv_aload_n hx hb dX3_passWinter_47 rfl (lv_at hl 0 rfl) ?_
        refine lv_dup hx hb dX3_passWinter_48 rfl ?_
        refine t_geti (ci := 3) (C := RX3) (T := TX3) (N := 4) hx hb hts iX3 hown hw k_a0 rfl rfl rfl 3 (by decide) (hts _ tw_383) (fun _ h9 => h9) dX3_passWinter_49 rfl (fun v49 l_v49 h_v49 f_a0_X3_3 => ?_)
        have l_v49 : (-2147483648) ≤ v49.toInt := l_v49
        have h_v49 : v49.toInt ≤ 2147483647 := h_v49
        refine lv_aload_n hx hb dX3_passWinter_52 rfl (lv_at hl 2 rfl) ?_
        refine lv_aload_n hx hb dX3_passWinter_53 rfl (lv_at hl 1 rfl) ?_
        refine t_geti (ci := 0) (C := RX0) (T := TX0) (N := 16) hx hb hts iX0 hown hw k_a1 rfl rfl rfl 3 (by decide) (hts _ tw_78) (fun _ h9 => h9) dX3_passWinter_54 rfl (fun v54 l_v54 h_v54 f_a1_X0_3 => ?_)
        have l_v54 : 0 ≤ v54.toInt := l_v54
        have h_v54 : v54.toInt ≤ 6 := h_v54
        refine t_calli (va_runV (As := [.int v54]) (rest := [.int v49, .ref a0]) ⟨hx, hb, hml, hown, hts⟩ (t_X8_brokenVoices l dC dI tys κ B w3 hw.2.2.2.2 a2 k_a2 v54 (by omega) (by omega) H.size) (cwV 1 hts (gUV tw_1093 tw_769 tw_770 tw_8 tw_771) rfl rfl rfl (by decide +kernel) ⟨(Nat.le_of_ble_eq_true rfl), (Nat.le_of_ble_eq_true rfl)⟩) ⟨cPre.blind, t_recv hw (ci := 8) k_a2 rfl rfl, cPre.use hw.2.1 hw.1 hw.2.2.1 hE⟩ rfl rfl hl.1 rfl (lv_room (Nat.le_of_ble_eq_true rfl)) dX3_passWinter_57 ⟨(Nat.le_of_ble_eq_true rfl), (Nat.le_of_ble_eq_true rfl)⟩) hw hA (fun _ _ h => h.1) (fun v57 w_1 H locs hp hw => ?_)
        obtain ⟨_, hm⟩ := hp
        have l_v57 := i32_lo v57
        have h_v57 := i32_hi v57
        have hM := hM.trans hm (by decide) (by decide)
        have f_a0_X3_3 := hm.1 _ _ _ _ f_a0_X3_3 (by decide)
        have f_a1_X0_3 := hm.1 _ _ _ _ f_a1_X0_3 (by decide)
        refine t_calli (va_runS (As := [.int v57]) (rest := [.int v49, .ref a0]) ⟨hx, hb, hml, hown, hts⟩ (t_J6_bitCount_0f7a4 l dC dI tys κ B w_1 hw.2.2.2.2 v57 H.size) (va_cwS 1 hts (gUS tw_1094 tw_773 tw_21 tw_774) rfl rfl rfl (by decide +kernel) ⟨(Nat.le_of_ble_eq_true rfl), (Nat.le_of_ble_eq_true rfl)⟩) ⟨cPre.blind, cPre.use hw.2.1 hw.1 hw.2.2.1 hE⟩ rfl rfl hl.1 rfl (lv_room (Nat.le_of_ble_eq_true rfl)) dX3_passWinter_60 ⟨(Nat.le_of_ble_eq_true rfl), (Nat.le_of_ble_eq_true rfl)⟩) hw hA (fun _ _ h => h.2.2.1) (fun v60 w_2 H locs hp hw => ?_)
        obtain ⟨l_v60, h_v60, _, hm⟩ := hp
        have hM := hM.trans hm (by decide) (by decide)
        have f_a0_X3_3 := hm.1 _ _ _ _ f_a0_X3_3 (by decide)
        have f_a1_X0_3 := hm.1 _ _ _ _ f_a1_X0_3 (by decide)
        refine lv_iadd hx hb dX3_passWinter_63 ?_
        refine lv_topi (fun v63 e_v63 => ?_)
        have l_v63 := i32_lo v63
        have h_v63 := i32_hi v63
        refine t_put (ci := 3) (C := RX3) (T := TX3) (N := 4) (v := .int v63) hx hb hts iX3 tyX3 tyX3_ok nmX3 hown hw k_a0 rfl rfl rfl 3 (by decide) (hts _ tw_383) (fun _ h9 => h9) rfl (tyX3_ok 3 (by decide)) rfl rfl (okV.int rfl (by omega) (by omega)) dX3_passWinter_64 (fun w_3 H locs hw u => ?_)
        have hM := hM.up1 u (by decide)
        have f_a0_X3_3 := u.2.2
        have f_a1_X0_3 := u.1 _ _ _ _ f_a1_X0_3 (Or.inr (Or.inl (by decide)))
        rw [hQ]
        refine W.widen (k := 0) (n := 0) (Nat.le_refl _) (Nat.le_refl _) ?_
        exact W.vret hx hb hr (fun t ht hW => ⟨⟨w_3, rfl, ⟨hw.2.2.2.2, hM⟩, by rw [ht]; exact hw.2.1, va_K.moved hW.alike hw.1, hw.2.2.1⟩, hw.2.2.2.1.F ht⟩) hw.2.2.2.1.2.2 dX3_passWinter_67
      · simp only [fa_lt, fa_le, fa_eq] at c_7
        refine lv_aload_n hx hb dX3_passWinter_10 rfl (lv_at hl 0 rfl) ?_
        refine lv_aload_n hx hb dX3_passWinter_11 rfl (lv_at hl 1 rfl) ?_
        refine t_geti (ci := 0) (C := RX0) (T := TX0) (N := 16) hx hb hts iX0 hown hw k_a1 rfl rfl rfl 3 (by decide) (hts _ tw_78) (fun _ h9 => h9) dX3_passWinter_12 rfl (fun v12 l_v12 h_v12 f_a1_X0_3 => ?_)
        have l_v12 : 0 ≤ v12.toInt := l_v12
        have h_v12 : v12.toInt ≤ 6 := h_v12
        refine lv_aload_n hx hb dX3_passWinter_15 rfl (lv_at hl 2 rfl) ?_
        refine lv_iload hx hb dX3_passWinter_16 (lv_at hl 5 rfl) ?_
        refine t_callv (va_runV (As := [.int v12, .ref a2, .int a5]) (rest := []) ⟨hx, hb, hml, hown, hts⟩ (t_X3_drawVoices l dC dI tys κ B w3 hw.2.2.2.2 a0 k_a0 v12 (by omega) (by omega) a2 k_a2 a5 (by omega) (by omega) H.size) (cwV 3 hts (gUV tw_1079 tw_1081 ts_2_13 tw_11 tw_1082) rfl rfl rfl (by decide +kernel) ⟨(Nat.le_of_ble_eq_true rfl), (Nat.le_of_ble_eq_true rfl)⟩) ⟨cPre.blind, t_recv hw (ci := 3) k_a0 rfl rfl, cPre.use hw.2.1 hw.1 hw.2.2.1 hE⟩ rfl rfl hl.1 rfl (lv_room (Nat.le_of_ble_eq_true rfl)) dX3_passWinter_18 ⟨(Nat.le_of_ble_eq_true rfl), (Nat.le_of_ble_eq_true rfl)⟩) hw hA (fun _ h => h.1) (fun w_4 H locs hp hw => ?_)
        obtain ⟨_, hm⟩ := hp
        have hM := hM.trans hm (by decide) (by decide)
        have f_a1_X0_3 := hm.1 _ _ _ _ f_a1_X0_3 (by decide)
        refine lv_aload_n hx hb dX3_passWinter_21 rfl (lv_at hl 0 rfl) ?_
        refine lv_aload_n hx hb dX3_passWinter_22 rfl (lv_at hl 1 rfl) ?_
        refine lv_aload_n hx hb dX3_passWinter_23 rfl (lv_at hl 2 rfl) ?_
        refine lv_aload_nN hx hb dX3_passWinter_24 rfl (lv_at hl 3 rfl) ?_
        refine t_calli (va_runV (As := [.ref a1, .ref a2, .null]) (rest := []) ⟨hx, hb, hml, hown, hts⟩ (t_X3_pass l dC dI tys κ B w_4 hw.2.2.2.2 a0 k_a0 a1 k_a1 a2 k_a2 none (fun _ h => by cases h) H.size) (cwV 3 hts (gUV tw_1092 tw_761 tw_762 tw_11 tw_763) rfl rfl rfl (by decide +kernel) ⟨(Nat.le_of_ble_eq_true rfl), (Nat.le_of_ble_eq_true rfl)⟩) ⟨cPre.blind, t_recv hw (ci := 3) k_a0 rfl rfl, cPre.use hw.2.1 hw.1 hw.2.2.1 hE⟩ rfl rfl hl.1 rfl (lv_room (Nat.le_of_ble_eq_true rfl)) dX3_passWinter_25 ⟨(Nat.le_of_ble_eq_true rfl), (Nat.le_of_ble_eq_true rfl)⟩) hw hA (fun _ _ h => h.2.2.1) (fun v25 w_5 H locs hp hw => ?_)
        obtain ⟨l_v25, h_v25, _, hm⟩ := hp
        have hM := hM.trans hm (by decide) (by decide)
        have f_a1_X0_3 := hm.1 _ _ _ _ f_a1_X0_3 (by decide)
        have J41 : ∀ (H : Heap) (locs : List Loc) (ls : Array Slot) (w41 : va_W), tW (dC, dI) tys κ B A s w41 H locs → Sm [(3, 1), (3, 2), (3, 3), (5, 0), (5, 1), (5, 5), (8, 0), (8, 1), (8, 2), (8, 3), (8, 6)] [33, 34, 35, 36, 42, 43, 45, 46, 48] κ ws w41 → fld w41 a1 0 3 (.int v12) → lv_has ls 7 [(0, .ref a0), (1, .ref a1), (2, .ref a2), (3, .null), (4, .int a4), (5, .int a5), (6, .int p3_l6)] → W p l e (headSpec (ws_u yX3_passWinter cX3_passWinter 7 none) ({ frames := 5, cells := 0, slots := 0, locals := 122 })).room s m ([.ref a0, .ref a1, .ref a2, va_rf none, .int a4, .int a5] : List Value).toArray below meth c H locs 0 0 QQ (F0 m 41 ls []) := by
          intro H locs ls w41 hw hM f_a1_X0_3 hl
          obtain ⟨v41, e_v41⟩ : ∃ y : Int32, y = p3_l6 + 1 := ⟨_, rfl⟩
          refine lv_iinc (v := v41) (lv' := [(6, .int v41), (0, .ref a0), (1, .ref a1), (2, .ref a2), (3, .null), (4, .int a4), (5, .int a5)]) hx hb dX3_passWinter_41 hl (k := 6) rfl e_v41.symm (by decide) rfl (fun ls hl => ?_)
          have e_v41 : v41.toInt = p3_l6.toInt + 1 := ad_i e_v41 rfl li_1 (by omega) (by omega)
          refine lv_goto (tgt := 3) hx hb dX3_passWinter_44 (by decide) ?_
          exact ih_3 _ _ _ _ (by omega) ⟨w41, v41, hw, hM, (by omega), (by omega), (lv_sub hl [1, 2, 3, 4, 5, 6, 0] rfl), rfl⟩
        refine lv_if_eq (tgt := 41) hx hb dX3_passWinter_28 (by decide) (fun c_28 => ?_) (fun c_28 => ?_)
        · simp only [fa_lt, fa_le, fa_eq, li_0] at c_28
          exact J41 _ _ _ w_5 hw hM f_a1_X0_3 (lv_sub hl [0, 1, 2, 3, 4, 5, 6] rfl)
        · simp only [fa_lt, fa_le, fa_eq, li_0] at c_28
          refine lv_aload_n hx hb dX3_passWinter_31 rfl (lv_at hl 0 rfl) ?_
          refine lv_dup hx hb dX3_passWinter_32 rfl ?_
          refine t_geti (ci := 3) (C := RX3) (T := TX3) (N := 4) hx hb hts iX3 hown hw k_a0 rfl rfl rfl 2 (by decide) (hts _ tw_381) (fun _ h9 => h9) dX3_passWinter_33 rfl (fun v33 l_v33 h_v33 f_a0_X3_2 => ?_)
          have l_v33 : (-2147483648) ≤ v33.toInt := l_v33
          have h_v33 : v33.toInt ≤ 2147483647 := h_v33
          refine lv_iconst (v := 1) hx hb dX3_passWinter_36 (by decide) ?_
          refine lv_iadd hx hb dX3_passWinter_37 ?_
          refine lv_topi (fun v37 e_v37 => ?_)
          have l_v37 := i32_lo v37
          have h_v37 := i32_hi v37
          refine t_put (ci := 3) (C := RX3) (T := TX3) (N := 4) (v := .int v37) hx hb hts iX3 tyX3 tyX3_ok nmX3 hown hw k_a0 rfl rfl rfl 2 (by decide) (hts _ tw_381) (fun _ h9 => h9) rfl (tyX3_ok 2 (by decide)) rfl rfl (okV.int rfl (by omega) (by omega)) dX3_passWinter_38 (fun w_6 H locs hw u => ?_)
          have hM := hM.up1 u (by decide)
          have f_a1_X0_3 := u.1 _ _ _ _ f_a1_X0_3 (Or.inr (Or.inl (by decide)))
          have f_a0_X3_2 := u.2.2
          exact J41 _ _ _ w_6 hw hM f_a1_X0_3 (lv_sub hl [0, 1, 2, 3, 4, 5, 6] rfl)
    exact J3 _ _ _ _ ⟨ws, 0, hw, hM, (by decide), (by decide), (lv_sub hl [1, 2, 3, 4, 5, 6, 0] rfl), rfl⟩
  · have k_a3 := k_a3 _ rfl
    have hl := lv_entry ([.ref a0, .ref a1, .ref a2, .ref a3, .int a4, .int a5]) (n := 7) (Nat.le_of_ble_eq_true rfl)
    show W p l e (headSpec (ws_u yX3_passWinter cX3_passWinter 7 none) ({ frames := 5, cells := 0, slots := 0, locals := 122 })).room s m ([.ref a0, .ref a1, .ref a2, va_rf (some a3), .int a4, .int a5] : List Value).toArray below meth c s.heap [] 0 0 _ (entryFrame m ([.ref a0, .ref a1, .ref a2, .ref a3, .int a4, .int a5] : List Value).toArray 7)
    rw [lg_entry_eq]
    generalize (lg_sl ([.ref a0, .ref a1, .ref a2, .ref a3, .int a4, .int a5]) ++ List.replicate (7 - (lg_sl ([.ref a0, .ref a1, .ref a2, .ref a3, .int a4, .int a5])).length) Slot.unset).toArray = ls at hl ⊢
    have hl : lv_has ls 7 [(0, .ref a0), (1, .ref a1), (2, .ref a2), (3, .ref a3), (4, .int a4), (5, .int a5)] := hl
    refine t_start (fun QQ hQ => ?_)
    refine lv_iconst (v := 0) hx hb dX3_passWinter_0 (by decide) ?_
    refine lv_istore (lv' := [(6, .int 0), (0, .ref a0), (1, .ref a1), (2, .ref a2), (3, .ref a3), (4, .int a4), (5, .int a5)]) hx hb dX3_passWinter_1 hl (by decide) rfl (fun ls hl => ?_)
    have J3 : ∀ (n : Nat) (H : Heap) (locs : List Loc) (ls : Array Slot), (∃ (w3 : va_W) (p3_l6 : Int32), tW (dC, dI) tys κ B A s w3 H locs ∧ Sm [(3, 1), (3, 2), (3, 3), (5, 0), (5, 1), (5, 5), (8, 0), (8, 1), (8, 2), (8, 3), (8, 6)] [33, 34, 35, 36, 42, 43, 45, 46, 48] κ ws w3 ∧ 0 ≤ p3_l6.toInt ∧ p3_l6.toInt ≤ 60 ∧ lv_has ls 7 [(0, .ref a0), (1, .ref a1), (2, .ref a2), (3, .ref a3), (4, .int a4), (5, .int a5), (6, .int p3_l6)] ∧ (60 - p3_l6.toInt).toNat = n) → W p l e (headSpec (ws_u yX3_passWinter cX3_passWinter 7 none) ({ frames := 5, cells := 0, slots := 0, locals := 122 })).room s m ([.ref a0, .ref a1, .ref a2, va_rf (some a3), .int a4, .int a5] : List Value).toArray below meth c H locs 0 0 QQ (F0 m 3 ls []) := by
      refine loopT _ ?_
      intro n_3 H locs ls hI ih_3
      obtain ⟨w3, p3_l6, hw, hM, l_p3_l6, h_p3_l6, hl, hn_3⟩ := hI
      refine lv_iload hx hb dX3_passWinter_3 (lv_at hl 6 rfl) ?_
      refine lv_iload hx hb dX3_passWinter_5 (lv_at hl 4 rfl) ?_
      refine lv_icmp_ge (tgt := 47) hx hb dX3_passWinter_7 (by decide) (fun c_7 => ?_) (fun c_7 => ?_)
      · simp only [fa_lt, fa_le, fa_eq] at c_7
        refine lv_aload_n hx hb dX3_passWinter_47 rfl (lv_at hl 0 rfl) ?_
        refine lv_dup hx hb dX3_passWinter_48 rfl ?_
        refine t_geti (ci := 3) (C := RX3) (T := TX3) (N := 4) hx hb hts iX3 hown hw k_a0 rfl rfl rfl 3 (by decide) (hts _ tw_383) (fun _ h9 => h9) dX3_passWinter_49 rfl (fun v49 l_v49 h_v49 f_a0_X3_3 => ?_)
        have l_v49 : (-2147483648) ≤ v49.toInt := l_v49
        have h_v49 : v49.toInt ≤ 2147483647 := h_v49
        refine lv_aload_n hx hb dX3_passWinter_52 rfl (lv_at hl 2 rfl) ?_
        refine lv_aload_n hx hb dX3_passWinter_53 rfl (lv_at hl 1 rfl) ?_
        refine t_geti (ci := 0) (C := RX0) (T := TX0) (N := 16) hx hb hts iX0 hown hw k_a1 rfl rfl rfl 3 (by decide) (hts _ tw_78) (fun _ h9 => h9) dX3_passWinter_54 rfl (fun v54 l_v54 h_v54 f_a1_X0_3 => ?_)
        have l_v54 : 0 ≤ v54.toInt := l_v54
        have h_v54 : v54.toInt ≤ 6 := h_v54
        refine t_calli (va_runV (As := [.int v54]) (rest := [.int v49, .ref a0]) ⟨hx, hb, hml, hown, hts⟩ (t_X8_brokenVoices l dC dI tys κ B w3 hw.2.2.2.2 a2 k_a2 v54 (by omega) (by omega) H.size) (cwV 1 hts (gUV tw_1093 tw_769 tw_770 tw_8 tw_771) rfl rfl rfl (by decide +kernel) ⟨(Nat.le_of_ble_eq_true rfl), (Nat.le_of_ble_eq_true rfl)⟩) ⟨cPre.blind, t_recv hw (ci := 8) k_a2 rfl rfl, cPre.use hw.2.1 hw.1 hw.2.2.1 hE⟩ rfl rfl hl.1 rfl (lv_room (Nat.le_of_ble_eq_true rfl)) dX3_passWinter_57 ⟨(Nat.le_of_ble_eq_true rfl), (Nat.le_of_ble_eq_true rfl)⟩) hw hA (fun _ _ h => h.1) (fun v57 w_7 H locs hp hw => ?_)
        obtain ⟨_, hm⟩ := hp
        have l_v57 := i32_lo v57
        have h_v57 := i32_hi v57
        have hM := hM.trans hm (by decide) (by decide)
        have f_a0_X3_3 := hm.1 _ _ _ _ f_a0_X3_3 (by decide)
        have f_a1_X0_3 := hm.1 _ _ _ _ f_a1_X0_3 (by decide)
        refine t_calli (va_runS (As := [.int v57]) (rest := [.int v49, .ref a0]) ⟨hx, hb, hml, hown, hts⟩ (t_J6_bitCount_0f7a4 l dC dI tys κ B w_7 hw.2.2.2.2 v57 H.size) (va_cwS 1 hts (gUS tw_1094 tw_773 tw_21 tw_774) rfl rfl rfl (by decide +kernel) ⟨(Nat.le_of_ble_eq_true rfl), (Nat.le_of_ble_eq_true rfl)⟩) ⟨cPre.blind, cPre.use hw.2.1 hw.1 hw.2.2.1 hE⟩ rfl rfl hl.1 rfl (lv_room (Nat.le_of_ble_eq_true rfl)) dX3_passWinter_60 ⟨(Nat.le_of_ble_eq_true rfl), (Nat.le_of_ble_eq_true rfl)⟩) hw hA (fun _ _ h => h.2.2.1) (fun v60 w_8 H locs hp hw => ?_)
        obtain ⟨l_v60, h_v60, _, hm⟩ := hp
        have hM := hM.trans hm (by decide) (by decide)
        have f_a0_X3_3 := hm.1 _ _ _ _ f_a0_X3_3 (by decide)
        have f_a1_X0_3 := hm.1 _ _ _ _ f_a1_X0_3 (by decide)
        refine lv_iadd hx hb dX3_passWinter_63 ?_
        refine lv_topi (fun v63 e_v63 => ?_)
        have l_v63 := i32_lo v63
        have h_v63 := i32_hi v63
        refine t_put (ci := 3) (C := RX3) (T := TX3) (N := 4) (v := .int v63) hx hb hts iX3 tyX3 tyX3_ok nmX3 hown hw k_a0 rfl rfl rfl 3 (by decide) (hts _ tw_383) (fun _ h9 => h9) rfl (tyX3_ok 3 (by decide)) rfl rfl (okV.int rfl (by omega) (by omega)) dX3_passWinter_64 (fun w_9 H locs hw u => ?_)
        have hM := hM.up1 u (by decide)
        have f_a0_X3_3 := u.2.2
        have f_a1_X0_3 := u.1 _ _ _ _ f_a1_X0_3 (Or.inr (Or.inl (by decide)))
        rw [hQ]
        refine W.widen (k := 0) (n := 0) (Nat.le_refl _) (Nat.le_refl _) ?_
        exact W.vret hx hb hr (fun t ht hW => ⟨⟨w_9, rfl, ⟨hw.2.2.2.2, hM⟩, by rw [ht]; exact hw.2.1, va_K.moved hW.alike hw.1, hw.2.2.1⟩, hw.2.2.2.1.F ht⟩) hw.2.2.2.1.2.2 dX3_passWinter_67
      · simp only [fa_lt, fa_le, fa_eq] at c_7
        refine lv_aload_n hx hb dX3_passWinter_10 rfl (lv_at hl 0 rfl) ?_
        refine lv_aload_n hx hb dX3_passWinter_11 rfl (lv_at hl 1 rfl) ?_
        refine t_geti (ci := 0) (C := RX0) (T := TX0) (N := 16) hx hb hts iX0 hown hw k_a1 rfl rfl rfl 3 (by decide) (hts _ tw_78) (fun _ h9 => h9) dX3_passWinter_12 rfl (fun v12 l_v12 h_v12 f_a1_X0_3 => ?_)
        have l_v12 : 0 ≤ v12.toInt := l_v12
        have h_v12 : v12.toInt ≤ 6 := h_v12
        refine lv_aload_n hx hb dX3_passWinter_15 rfl (lv_at hl 2 rfl) ?_
        refine lv_iload hx hb dX3_passWinter_16 (lv_at hl 5 rfl) ?_
        refine t_callv (va_runV (As := [.int v12, .ref a2, .int a5]) (rest := []) ⟨hx, hb, hml, hown, hts⟩ (t_X3_drawVoices l dC dI tys κ B w3 hw.2.2.2.2 a0 k_a0 v12 (by omega) (by omega) a2 k_a2 a5 (by omega) (by omega) H.size) (cwV 3 hts (gUV tw_1079 tw_1081 ts_2_13 tw_11 tw_1082) rfl rfl rfl (by decide +kernel) ⟨(Nat.le_of_ble_eq_true rfl), (Nat.le_of_ble_eq_true rfl)⟩) ⟨cPre.blind, t_recv hw (ci := 3) k_a0 rfl rfl, cPre.use hw.2.1 hw.1 hw.2.2.1 hE⟩ rfl rfl hl.1 rfl (lv_room (Nat.le_of_ble_eq_true rfl)) dX3_passWinter_18 ⟨(Nat.le_of_ble_eq_true rfl), (Nat.le_of_ble_eq_true rfl)⟩) hw hA (fun _ h => h.1) (fun w_10 H locs hp hw => ?_)
        obtain ⟨_, hm⟩ := hp
        have hM := hM.trans hm (by decide) (by decide)
        have f_a1_X0_3 := hm.1 _ _ _ _ f_a1_X0_3 (by decide)
        refine lv_aload_n hx hb dX3_passWinter_21 rfl (lv_at hl 0 rfl) ?_
        refine lv_aload_n hx hb dX3_passWinter_22 rfl (lv_at hl 1 rfl) ?_
        refine lv_aload_n hx hb dX3_passWinter_23 rfl (lv_at hl 2 rfl) ?_
        refine lv_aload_n hx hb dX3_passWinter_24 rfl (lv_at hl 3 rfl) ?_
        refine t_calli (va_runV (As := [.ref a1, .ref a2, .ref a3]) (rest := []) ⟨hx, hb, hml, hown, hts⟩ (t_X3_pass l dC dI tys κ B w_10 hw.2.2.2.2 a0 k_a0 a1 k_a1 a2 k_a2 (some a3) (fun _ h => by cases h; exact k_a3) H.size) (cwV 3 hts (gUV tw_1092 tw_761 tw_762 tw_11 tw_763) rfl rfl rfl (by decide +kernel) ⟨(Nat.le_of_ble_eq_true rfl), (Nat.le_of_ble_eq_true rfl)⟩) ⟨cPre.blind, t_recv hw (ci := 3) k_a0 rfl rfl, cPre.use hw.2.1 hw.1 hw.2.2.1 hE⟩ rfl rfl hl.1 rfl (lv_room (Nat.le_of_ble_eq_true rfl)) dX3_passWinter_25 ⟨(Nat.le_of_ble_eq_true rfl), (Nat.le_of_ble_eq_true rfl)⟩) hw hA (fun _ _ h => h.2.2.1) (fun v25 w_11 H locs hp hw => ?_)
        obtain ⟨l_v25, h_v25, _, hm⟩ := hp
        have hM := hM.trans hm (by decide) (by decide)
        have f_a1_X0_3 := hm.1 _ _ _ _ f_a1_X0_3 (by decide)
        have J41 : ∀ (H : Heap) (locs : List Loc) (ls : Array Slot) (w41 : va_W), tW (dC, dI) tys κ B A s w41 H locs → Sm [(3, 1), (3, 2), (3, 3), (5, 0), (5, 1), (5, 5), (8, 0), (8, 1), (8, 2), (8, 3), (8, 6)] [33, 34, 35, 36, 42, 43, 45, 46, 48] κ ws w41 → fld w41 a1 0 3 (.int v12) → lv_has ls 7 [(0, .ref a0), (1, .ref a1), (2, .ref a2), (3, .ref a3), (4, .int a4), (5, .int a5), (6, .int p3_l6)] → W p l e (headSpec (ws_u yX3_passWinter cX3_passWinter 7 none) ({ frames := 5, cells := 0, slots := 0, locals := 122 })).room s m ([.ref a0, .ref a1, .ref a2, va_rf (some a3), .int a4, .int a5] : List Value).toArray below meth c H locs 0 0 QQ (F0 m 41 ls []) := by
          intro H locs ls w41 hw hM f_a1_X0_3 hl
          obtain ⟨v41, e_v41⟩ : ∃ y : Int32, y = p3_l6 + 1 := ⟨_, rfl⟩
          refine lv_iinc (v := v41) (lv' := [(6, .int v41), (0, .ref a0), (1, .ref a1), (2, .ref a2), (3, .ref a3), (4, .int a4), (5, .int a5)]) hx hb dX3_passWinter_41 hl (k := 6) rfl e_v41.symm (by decide) rfl (fun ls hl => ?_)
          have e_v41 : v41.toInt = p3_l6.toInt + 1 := ad_i e_v41 rfl li_1 (by omega) (by omega)
          refine lv_goto (tgt := 3) hx hb dX3_passWinter_44 (by decide) ?_
          exact ih_3 _ _ _ _ (by omega) ⟨w41, v41, hw, hM, (by omega), (by omega), (lv_sub hl [1, 2, 3, 4, 5, 6, 0] rfl), rfl⟩
        refine lv_if_eq (tgt := 41) hx hb dX3_passWinter_28 (by decide) (fun c_28 => ?_) (fun c_28 => ?_)
        · simp only [fa_lt, fa_le, fa_eq, li_0] at c_28
          exact J41 _ _ _ w_11 hw hM f_a1_X0_3 (lv_sub hl [0, 1, 2, 3, 4, 5, 6] rfl)
        · simp only [fa_lt, fa_le, fa_eq, li_0] at c_28
          refine lv_aload_n hx hb dX3_passWinter_31 rfl (lv_at hl 0 rfl) ?_
          refine lv_dup hx hb dX3_passWinter_32 rfl ?_
          refine t_geti (ci := 3) (C := RX3) (T := TX3) (N := 4) hx hb hts iX3 hown hw k_a0 rfl rfl rfl 2 (by decide) (hts _ tw_381) (fun _ h9 => h9) dX3_passWinter_33 rfl (fun v33 l_v33 h_v33 f_a0_X3_2 => ?_)
          have l_v33 : (-2147483648) ≤ v33.toInt := l_v33
          have h_v33 : v33.toInt ≤ 2147483647 := h_v33
          refine lv_iconst (v := 1) hx hb dX3_passWinter_36 (by decide) ?_
          refine lv_iadd hx hb dX3_passWinter_37 ?_
          refine lv_topi (fun v37 e_v37 => ?_)
          have l_v37 := i32_lo v37
          have h_v37 := i32_hi v37
          refine t_put (ci := 3) (C := RX3) (T := TX3) (N := 4) (v := .int v37) hx hb hts iX3 tyX3 tyX3_ok nmX3 hown hw k_a0 rfl rfl rfl 2 (by decide) (hts _ tw_381) (fun _ h9 => h9) rfl (tyX3_ok 2 (by decide)) rfl rfl (okV.int rfl (by omega) (by omega)) dX3_passWinter_38 (fun w_12 H locs hw u => ?_)
          have hM := hM.up1 u (by decide)
          have f_a1_X0_3 := u.1 _ _ _ _ f_a1_X0_3 (Or.inr (Or.inl (by decide)))
          have f_a0_X3_2 := u.2.2
          exact J41 _ _ _ w_12 hw hM f_a1_X0_3 (lv_sub hl [0, 1, 2, 3, 4, 5, 6] rfl)
    exact J3 _ _ _ _ ⟨ws, 0, hw, hM, (by decide), (by decide), (lv_sub hl [1, 2, 3, 4, 5, 6, 0] rfl), rfl⟩
set_option maxHeartbeats 4000000 in
set_option maxRecDepth 100000 in
theorem t_X11_winters (l : Launch) (dC : Nat → ClassId) (dI : Nat → Nat → Nat) (tys : List (ClassId × FieldType)) (κ : tK) (B : Nat) (ws : va_W) (hT : Ty κ tys B ws) (a0 : Nat) (k_a0 : κ a0 = some 11) (a1 : Int32) (a2 : Int32) (a3 : Int32) (a4 : Int32) (sz : Nat) : Met l yX11_winters (ws_u yX11_winters cX11_winters 6 (some .int)) ({ frames := 6, cells := 0, slots := 0, locals := 148 }) (va_Pc [.ref a0, .int a1, .int a2, .int a3, .int a4] (cPre (dC, dI) tys ws sz)) (va_Qi (fun (r : Int32) (w : va_W) => Ty κ tys B w ∧ Sm [(3, 1), (3, 2), (3, 3), (5, 0), (5, 1), (5, 5), (8, 0), (8, 1), (8, 2), (8, 3), (8, 4), (8, 5), (8, 6)] [33, 34, 35, 36, 42, 43, 44, 45, 46, 47, 48] κ ws w) (fun w t => cPost (dC, dI) tys w (va_A ws sz) t) (va_A ws sz)) 0 0 (va_A ws sz) := by
  refine Met.ofW (cc := cX11_winters) (maxL := 6) (ret := (some .int)) (by decide) rfl ?_
  intro p e s m args below meth c s₁ B0 hml hv
  obtain ⟨rfl, hsz, hP, hK, hD0, hE⟩ := hv
  have hx := B0.exec
  have hb := B0.bytes
  have hr := B0.returns
  have hts0 := atoms_spec (ws := ws_u yX11_winters cX11_winters 6 (some .int)) B0.pre
  have hts : ∀ w ∈ gT, w.before _ s = true := fun w h => hts0 w (List.mem_cons_of_mem _ h)
  have hown : s.vm.findClass RX11 = some m.cls := findClass_of_methodNamed B0.named
  have hlocks := B0.notSynchronized
  subst hsz
  have hD := hD0.self (sz := s.heap.size)
  generalize hAe : va_A ws s.heap.size = A at hD ⊢
  have hA : ∀ q : Nat, s.heap.size ≤ q → A q := fun q h => by rw [← hAe]; exact Or.inr h
  have hw : tW (dC, dI) tys κ B A s ws s.heap [] := ⟨hK, hP, hD, va_S.rf, hT⟩
  have hM : Sm [(3, 1), (3, 2), (3, 3), (5, 0), (5, 1), (5, 5), (8, 0), (8, 1), (8, 2), (8, 3), (8, 4), (8, 5), (8, 6)] [33, 34, 35, 36, 42, 43, 44, 45, 46, 47, 48] κ ws ws := Sm.rf
  clear hP hK hD hD0 hts0
  have l_a1 := i32_lo a1
  have h_a1 := i32_hi a1
  have l_a2 := i32_lo a2
  have h_a2 := i32_hi a2
  have l_a3 := i32_lo a3
  have h_a3 := i32_hi a3
  have l_a4 := i32_lo a4
  have h_a4 := i32_hi a4
  have hl := lv_entry ([.ref a0, .int a1, .int a2, .int a3, .int a4]) (n := 6) (Nat.le_of_ble_eq_true rfl)
  rw [lg_entry_eq]
  generalize (lg_sl ([.ref a0, .int a1, .int a2, .int a3, .int a4]) ++ List.replicate (6 - (lg_sl ([.ref a0, .int a1, .int a2, .int a3, .int a4])).length) Slot.unset).toArray = ls at hl ⊢
  have hl : lv_has ls 6 [(0, .ref a0), (1, .int a1), (2, .int a2), (3, .int a3), (4, .int a4)] := hl
  refine t_start (fun QQ hQ => ?_)
  refine lv_aload_n hx hb dX11_winters_0 rfl (lv_at hl 0 rfl) ?_
  refine t_getr (k1 := 10) (ci := 11) (C := RX11) (T := TX11) (N := 12) hx hb hts iX11 hown hw k_a0 rfl rfl rfl 5 (by decide) (hts _ tw_428) (fun _ h9 => h9) dX11_winters_1 rfl (fun v1 k_v1 f_a0_X11_5 => ?_)
  refine t_getr (k1 := 0) (ci := 10) (C := RX10) (T := TX10) (N := 8) hx hb hts iX10 hown hw k_v1 rfl rfl rfl 0 (by decide) (hts _ tw_282) (fun _ h9 => h9) dX11_winters_4 rfl (fun v4 k_v4 f_v1_X10_0 => ?_)
  refine t_geti (ci := 0) (C := RX0) (T := TX0) (N := 16) hx hb hts iX0 hown hw k_v4 rfl rfl rfl 0 (by decide) (hts _ tw_69) (fun _ h9 => h9) dX11_winters_7 rfl (fun v7 l_v7 h_v7 f_v4_X0_0 => ?_)
  have l_v7 : 0 ≤ v7.toInt := l_v7
  have h_v7 : v7.toInt ≤ 1 := h_v7
  refine lv_if_eq (tgt := 35) hx hb dX11_winters_10 (by decide) (fun c_10 => ?_) (fun c_10 => ?_)
  · simp only [fa_lt, fa_le, fa_eq, li_0] at c_10
    refine lv_iconst (v := (-1)) hx hb dX11_winters_35 (by decide) ?_
    rw [hQ]
    refine W.widen (k := 0) (n := 0) (Nat.le_refl _) (Nat.le_refl _) ?_
    exact W.iret (v := (-1)) hx hb hr (fun t ht hW => ⟨⟨(-1), ws, rfl, ⟨hw.2.2.2.2, hM⟩, by rw [ht]; exact hw.2.1, va_K.moved hW.alike hw.1, hw.2.2.1⟩, hw.2.2.2.1.F ht⟩) hw.2.2.2.1.2.2 dX11_winters_36
  · simp only [fa_lt, fa_le, fa_eq, li_0] at c_10
    refine lv_iload_n hx hb dX11_winters_13 rfl (lv_at hl 1 rfl) ?_
    refine lv_iconst (v := 1) hx hb dX11_winters_14 (by decide) ?_
    refine lv_icmp_lt (tgt := 35) hx hb dX11_winters_15 (by decide) (fun c_15 => ?_) (fun c_15 => ?_)
    · simp only [fa_lt, fa_le, fa_eq, li_1] at c_15
      refine lv_iconst (v := (-1)) hx hb dX11_winters_35 (by decide) ?_
      rw [hQ]
      refine W.widen (k := 0) (n := 0) (Nat.le_refl _) (Nat.le_refl _) ?_
      exact W.iret (v := (-1)) hx hb hr (fun t ht hW => ⟨⟨(-1), ws, rfl, ⟨hw.2.2.2.2, hM⟩, by rw [ht]; exact hw.2.1, va_K.moved hW.alike hw.1, hw.2.2.1⟩, hw.2.2.2.1.F ht⟩) hw.2.2.2.1.2.2 dX11_winters_36
    · simp only [fa_lt, fa_le, fa_eq, li_1] at c_15
      refine lv_iload_n hx hb dX11_winters_18 rfl (lv_at hl 1 rfl) ?_
      refine lv_bipush (v := 10) hx hb dX11_winters_19 (by decide) ?_
      refine lv_icmp_gt (tgt := 35) hx hb dX11_winters_21 (by decide) (fun c_21 => ?_) (fun c_21 => ?_)
      · simp only [fa_lt, fa_le, fa_eq, li_10] at c_21
        refine lv_iconst (v := (-1)) hx hb dX11_winters_35 (by decide) ?_
        rw [hQ]
        refine W.widen (k := 0) (n := 0) (Nat.le_refl _) (Nat.le_refl _) ?_
        exact W.iret (v := (-1)) hx hb hr (fun t ht hW => ⟨⟨(-1), ws, rfl, ⟨hw.2.2.2.2, hM⟩, by rw [ht]; exact hw.2.1, va_K.moved hW.alike hw.1, hw.2.2.1⟩, hw.2.2.2.1.F ht⟩) hw.2.2.2.1.2.2 dX11_winters_36
      · simp only [fa_lt, fa_le, fa_eq, li_10] at c_21
        refine lv_iload_n hx hb dX11_winters_24 rfl (lv_at hl 2 rfl) ?_
        refine lv_iconst (v := 1) hx hb dX11_winters_25 (by decide) ?_
        refine lv_icmp_lt (tgt := 35) hx hb dX11_winters_26 (by decide) (fun c_26 => ?_) (fun c_26 => ?_)
        · simp only [fa_lt, fa_le, fa_eq, li_1] at c_26
          refine lv_iconst (v := (-1)) hx hb dX11_winters_35 (by decide) ?_
          rw [hQ]
          refine W.widen (k := 0) (n := 0) (Nat.le_refl _) (Nat.le_refl _) ?_
          exact W.iret (v := (-1)) hx hb hr (fun t ht hW => ⟨⟨(-1), ws, rfl, ⟨hw.2.2.2.2, hM⟩, by rw [ht]; exact hw.2.1, va_K.moved hW.alike hw.1, hw.2.2.1⟩, hw.2.2.2.1.F ht⟩) hw.2.2.2.1.2.2 dX11_winters_36
        · simp only [fa_lt, fa_le, fa_eq, li_1] at c_26
          refine lv_iload_n hx hb dX11_winters_29 rfl (lv_at hl 2 rfl) ?_
          refine lv_bipush (v := 60) hx hb dX11_winters_30 (by decide) ?_
          refine lv_icmp_le (tgt := 37) hx hb dX11_winters_32 (by decide) (fun c_32 => ?_) (fun c_32 => ?_)
          · simp only [fa_lt, fa_le, fa_eq, li_60] at c_32
            refine lv_iload_n hx hb dX11_winters_37 rfl (lv_at hl 3 rfl) ?_
            refine lv_if_lt (tgt := 58) hx hb dX11_winters_38 (by decide) (fun c_38 => ?_) (fun c_38 => ?_)
            · simp only [fa_lt, fa_le, fa_eq, li_0] at c_38
              refine lv_iconst (v := (-1)) hx hb dX11_winters_58 (by decide) ?_
              rw [hQ]
              refine W.widen (k := 0) (n := 0) (Nat.le_refl _) (Nat.le_refl _) ?_
              exact W.iret (v := (-1)) hx hb hr (fun t ht hW => ⟨⟨(-1), ws, rfl, ⟨hw.2.2.2.2, hM⟩, by rw [ht]; exact hw.2.1, va_K.moved hW.alike hw.1, hw.2.2.1⟩, hw.2.2.2.1.F ht⟩) hw.2.2.2.1.2.2 dX11_winters_59
            · simp only [fa_lt, fa_le, fa_eq, li_0] at c_38
              refine lv_iload_n hx hb dX11_winters_41 rfl (lv_at hl 3 rfl) ?_
              refine lv_bipush (v := 100) hx hb dX11_winters_42 (by decide) ?_
              refine lv_icmp_gt (tgt := 58) hx hb dX11_winters_44 (by decide) (fun c_44 => ?_) (fun c_44 => ?_)
              · simp only [fa_lt, fa_le, fa_eq, li_100] at c_44
                refine lv_iconst (v := (-1)) hx hb dX11_winters_58 (by decide) ?_
                rw [hQ]
                refine W.widen (k := 0) (n := 0) (Nat.le_refl _) (Nat.le_refl _) ?_
                exact W.iret (v := (-1)) hx hb hr (fun t ht hW => ⟨⟨(-1), ws, rfl, ⟨hw.2.2.2.2, hM⟩, by rw [ht]; exact hw.2.1, va_K.moved hW.alike hw.1, hw.2.2.1⟩, hw.2.2.2.1.F ht⟩) hw.2.2.2.1.2.2 dX11_winters_59
              · simp only [fa_lt, fa_le, fa_eq, li_100] at c_44
                refine lv_iload hx hb dX11_winters_47 (lv_at hl 4 rfl) ?_
                refine lv_if_lt (tgt := 58) hx hb dX11_winters_49 (by decide) (fun c_49 => ?_) (fun c_49 => ?_)
                · simp only [fa_lt, fa_le, fa_eq, li_0] at c_49
                  refine lv_iconst (v := (-1)) hx hb dX11_winters_58 (by decide) ?_
                  rw [hQ]
                  refine W.widen (k := 0) (n := 0) (Nat.le_refl _) (Nat.le_refl _) ?_
                  exact W.iret (v := (-1)) hx hb hr (fun t ht hW => ⟨⟨(-1), ws, rfl, ⟨hw.2.2.2.2, hM⟩, by rw [ht]; exact hw.2.1, va_K.moved hW.alike hw.1, hw.2.2.1⟩, hw.2.2.2.1.F ht⟩) hw.2.2.2.1.2.2 dX11_winters_59
                · simp only [fa_lt, fa_le, fa_eq, li_0] at c_49
                  refine lv_iload hx hb dX11_winters_52 (lv_at hl 4 rfl) ?_
                  refine lv_iconst (v := 1) hx hb dX11_winters_54 (by decide) ?_
                  refine lv_icmp_le (tgt := 60) hx hb dX11_winters_55 (by decide) (fun c_55 => ?_) (fun c_55 => ?_)
                  · simp only [fa_lt, fa_le, fa_eq, li_1] at c_55
                    refine lv_aload_n hx hb dX11_winters_60 rfl (lv_at hl 0 rfl) ?_
                    refine t_getr (k1 := 3) (ci := 11) (C := RX11) (T := TX11) (N := 12) hx hb hts iX11 hown hw k_a0 rfl rfl rfl 9 (by decide) (hts _ tw_432) (fun _ h9 => h9) dX11_winters_61 rfl (fun v61 k_v61 f_a0_X11_9 => ?_)
                    refine lv_aload_n hx hb dX11_winters_64 rfl (lv_at hl 0 rfl) ?_
                    refine t_getk (ci := 11) (C := RX11) (T := TX11) (N := 12) hx hb hts iX11 hown hw rfl 5 (by decide) (hts _ tw_428) (fun _ h9 => h9) dX11_winters_65 f_a0_X11_5 ?_
                    refine t_geti (ci := 10) (C := RX10) (T := TX10) (N := 8) hx hb hts iX10 hown hw k_v1 rfl rfl rfl 3 (by decide) (hts _ tw_289) (fun _ h9 => h9) dX11_winters_68 rfl (fun v68 l_v68 h_v68 f_v1_X10_3 => ?_)
                    have l_v68 : (-2147483648) ≤ v68.toInt := l_v68
                    have h_v68 : v68.toInt ≤ 2147483647 := h_v68
                    refine t_callv (va_runV (As := [.int v68]) (rest := []) ⟨hx, hb, hml, hown, hts⟩ (t_X3_beginWinters l dC dI tys κ B ws hw.2.2.2.2 v61 k_v61 v68 s.heap.size) (cwV 1 hts (gUV tw_1071 tw_1072 tw_1073 tw_11 tw_1074) rfl rfl rfl (by decide +kernel) ⟨(Nat.le_of_ble_eq_true rfl), (Nat.le_of_ble_eq_true rfl)⟩) ⟨cPre.blind, t_recv hw (ci := 3) k_v61 rfl rfl, cPre.use hw.2.1 hw.1 hw.2.2.1 hE⟩ rfl rfl hl.1 rfl (lv_room (Nat.le_of_ble_eq_true rfl)) dX11_winters_71 ⟨(Nat.le_of_ble_eq_true rfl), (Nat.le_of_ble_eq_true rfl)⟩) hw hA (fun _ h => h.1) (fun w_1 H locs hp hw => ?_)
                    obtain ⟨_, hm⟩ := hp
                    have hM := hM.trans hm (by decide) (by decide)
                    have f_a0_X11_5 := hm.1 _ _ _ _ f_a0_X11_5 (by decide)
                    have f_v1_X10_0 := hm.1 _ _ _ _ f_v1_X10_0 (by decide)
                    have f_v4_X0_0 := hm.1 _ _ _ _ f_v4_X0_0 (by decide)
                    have f_a0_X11_9 := hm.1 _ _ _ _ f_a0_X11_9 (by decide)
                    have f_v1_X10_3 := hm.1 _ _ _ _ f_v1_X10_3 (by decide)
                    refine lv_iconst (v := 0) hx hb dX11_winters_74 (by decide) ?_
                    refine lv_istore (lv' := [(5, .int 0), (0, .ref a0), (1, .int a1), (2, .int a2), (3, .int a3), (4, .int a4)]) hx hb dX11_winters_75 hl (by decide) rfl (fun ls hl => ?_)
                    have J77 : ∀ (n : Nat) (H : Heap) (locs : List Loc) (ls : Array Slot), (∃ (w77 : va_W) (p77_l5 : Int32), tW (dC, dI) tys κ B A s w77 H locs ∧ Sm [(3, 1), (3, 2), (3, 3), (5, 0), (5, 1), (5, 5), (8, 0), (8, 1), (8, 2), (8, 3), (8, 4), (8, 5), (8, 6)] [33, 34, 35, 36, 42, 43, 44, 45, 46, 47, 48] κ ws w77 ∧ 0 ≤ p77_l5.toInt ∧ p77_l5.toInt ≤ 10 ∧ fld w77 a0 11 5 (.ref v1) ∧ fld w77 a0 11 9 (.ref v61) ∧ fld w77 v1 10 0 (.ref v4) ∧ fld w77 v1 10 3 (.int v68) ∧ fld w77 v4 0 0 (.int v7) ∧ lv_has ls 6 [(0, .ref a0), (1, .int a1), (2, .int a2), (3, .int a3), (4, .int a4), (5, .int p77_l5)] ∧ (10 - p77_l5.toInt).toNat = n) → W p l e (headSpec (ws_u yX11_winters cX11_winters 6 (some .int)) ({ frames := 6, cells := 0, slots := 0, locals := 148 })).room s m ([.ref a0, .int a1, .int a2, .int a3, .int a4] : List Value).toArray below meth c H locs 0 0 QQ (F0 m 77 ls []) := by
                      refine loopT _ ?_
                      intro n_77 H locs ls hI ih_77
                      obtain ⟨w77, p77_l5, hw, hM, l_p77_l5, h_p77_l5, f_a0_X11_5, f_a0_X11_9, f_v1_X10_0, f_v1_X10_3, f_v4_X0_0, hl, hn_77⟩ := hI
                      refine lv_iload hx hb dX11_winters_77 (lv_at hl 5 rfl) ?_
                      refine lv_iload_n hx hb dX11_winters_79 rfl (lv_at hl 1 rfl) ?_
                      refine lv_icmp_ge (tgt := 127) hx hb dX11_winters_80 (by decide) (fun c_80 => ?_) (fun c_80 => ?_)
                      · simp only [fa_lt, fa_le, fa_eq] at c_80
                        refine lv_iload hx hb dX11_winters_127 (lv_at hl 4 rfl) ?_
                        refine lv_if_ne (tgt := 142) hx hb dX11_winters_129 (by decide) (fun c_129 => ?_) (fun c_129 => ?_)
                        · simp only [fa_lt, fa_le, fa_eq, li_0] at c_129
                          refine lv_aload_n hx hb dX11_winters_142 rfl (lv_at hl 0 rfl) ?_
                          refine t_getk (ci := 11) (C := RX11) (T := TX11) (N := 12) hx hb hts iX11 hown hw rfl 9 (by decide) (hts _ tw_432) (fun _ h9 => h9) dX11_winters_143 f_a0_X11_9 ?_
                          refine t_geti (ci := 3) (C := RX3) (T := TX3) (N := 4) hx hb hts iX3 hown hw k_v61 rfl rfl rfl 3 (by decide) (hts _ tw_384) (fun _ h9 => h9) dX11_winters_146 rfl (fun v146 l_v146 h_v146 f_v61_X3_3 => ?_)
                          have l_v146 : (-2147483648) ≤ v146.toInt := l_v146
                          have h_v146 : v146.toInt ≤ 2147483647 := h_v146
                          rw [hQ]
                          refine W.widen (k := 0) (n := 0) (Nat.le_refl _) (Nat.le_refl _) ?_
                          exact W.iret (v := v146) hx hb hr (fun t ht hW => ⟨⟨v146, w77, rfl, ⟨hw.2.2.2.2, hM⟩, by rw [ht]; exact hw.2.1, va_K.moved hW.alike hw.1, hw.2.2.1⟩, hw.2.2.2.1.F ht⟩) hw.2.2.2.1.2.2 dX11_winters_149
                        · simp only [fa_lt, fa_le, fa_eq, li_0] at c_129
                          refine lv_aload_n hx hb dX11_winters_132 rfl (lv_at hl 0 rfl) ?_
                          refine t_getk (ci := 11) (C := RX11) (T := TX11) (N := 12) hx hb hts iX11 hown hw rfl 9 (by decide) (hts _ tw_432) (fun _ h9 => h9) dX11_winters_133 f_a0_X11_9 ?_
                          refine t_geti (ci := 3) (C := RX3) (T := TX3) (N := 4) hx hb hts iX3 hown hw k_v61 rfl rfl rfl 2 (by decide) (hts _ tw_382) (fun _ h9 => h9) dX11_winters_136 rfl (fun v136 l_v136 h_v136 f_v61_X3_2 => ?_)
                          have l_v136 : (-2147483648) ≤ v136.toInt := l_v136
                          have h_v136 : v136.toInt ≤ 2147483647 := h_v136
                          refine lv_goto (tgt := 149) hx hb dX11_winters_139 (by decide) ?_
                          rw [hQ]
                          refine W.widen (k := 0) (n := 0) (Nat.le_refl _) (Nat.le_refl _) ?_
                          exact W.iret (v := v136) hx hb hr (fun t ht hW => ⟨⟨v136, w77, rfl, ⟨hw.2.2.2.2, hM⟩, by rw [ht]; exact hw.2.1, va_K.moved hW.alike hw.1, hw.2.2.1⟩, hw.2.2.2.1.F ht⟩) hw.2.2.2.1.2.2 dX11_winters_149
                      · simp only [fa_lt, fa_le, fa_eq] at c_80
                        refine lv_aload_n hx hb dX11_winters_83 rfl (lv_at hl 0 rfl) ?_
                        refine t_getr (k1 := 8) (ci := 11) (C := RX11) (T := TX11) (N := 12) hx hb hts iX11 hown hw k_a0 rfl rfl rfl 11 (by decide) (hts _ tw_434) (fun _ h9 => h9) dX11_winters_84 rfl (fun v84 k_v84 f_a0_X11_11 => ?_)
                        refine lv_aload_n hx hb dX11_winters_87 rfl (lv_at hl 0 rfl) ?_
                        refine t_getk (ci := 11) (C := RX11) (T := TX11) (N := 12) hx hb hts iX11 hown hw rfl 5 (by decide) (hts _ tw_428) (fun _ h9 => h9) dX11_winters_88 f_a0_X11_5 ?_
                        refine t_getr (k1 := 8) (ci := 10) (C := RX10) (T := TX10) (N := 8) hx hb hts iX10 hown hw k_v1 rfl rfl rfl 1 (by decide) (hts _ tw_285) (fun _ h9 => h9) dX11_winters_91 rfl (fun v91 k_v91 f_v1_X10_1 => ?_)
                        obtain ⟨u_v94q0, q_v94q0, f_v91_X8_1⟩ := t_peek (k := 1) hw.2.2.2.2 k_v91 rfl (by decide)
                        obtain ⟨v94q0, rfl, l_v94q0, h_v94q0⟩ := q_v94q0.geti (lo := (-1)) (hi := 5) rfl
                        refine t_callv (va_runV (As := [.ref v91]) (rest := []) ⟨hx, hb, hml, hown, hts⟩ (t_X8_copyFrom l dC dI tys κ B w77 hw.2.2.2.2 v84 k_v84 v91 k_v91 v94q0 (by omega) (by omega) f_v91_X8_1 H.size) (cwV 1 hts (gUV tw_898 tw_752 tw_753 tw_8 tw_754) rfl rfl rfl (by decide +kernel) ⟨(Nat.le_of_ble_eq_true rfl), (Nat.le_of_ble_eq_true rfl)⟩) ⟨cPre.blind, t_recv hw (ci := 8) k_v84 rfl rfl, cPre.use hw.2.1 hw.1 hw.2.2.1 hE⟩ rfl rfl hl.1 rfl (lv_room (Nat.le_of_ble_eq_true rfl)) dX11_winters_94 ⟨(Nat.le_of_ble_eq_true rfl), (Nat.le_of_ble_eq_true rfl)⟩) hw hA (fun _ h => h.1) (fun w_2 H locs hp hw => ?_)
                        obtain ⟨_, hm, f_v91_X8_1⟩ := hp
                        have hM := hM.trans hm (by decide) (by decide)
                        have f_a0_X11_5 := hm.1 _ _ _ _ f_a0_X11_5 (by decide)
                        have f_a0_X11_9 := hm.1 _ _ _ _ f_a0_X11_9 (by decide)
                        have f_v1_X10_0 := hm.1 _ _ _ _ f_v1_X10_0 (by decide)
                        have f_v1_X10_3 := hm.1 _ _ _ _ f_v1_X10_3 (by decide)
                        have f_v4_X0_0 := hm.1 _ _ _ _ f_v4_X0_0 (by decide)
                        have f_a0_X11_11 := hm.1 _ _ _ _ f_a0_X11_11 (by decide)
                        have f_v1_X10_1 := hm.1 _ _ _ _ f_v1_X10_1 (by decide)
                        refine lv_aload_n hx hb dX11_winters_97 rfl (lv_at hl 0 rfl) ?_
                        refine t_getk (ci := 11) (C := RX11) (T := TX11) (N := 12) hx hb hts iX11 hown hw rfl 9 (by decide) (hts _ tw_432) (fun _ h9 => h9) dX11_winters_98 f_a0_X11_9 ?_
                        refine lv_aload_n hx hb dX11_winters_101 rfl (lv_at hl 0 rfl) ?_
                        refine t_getk (ci := 11) (C := RX11) (T := TX11) (N := 12) hx hb hts iX11 hown hw rfl 5 (by decide) (hts _ tw_428) (fun _ h9 => h9) dX11_winters_102 f_a0_X11_5 ?_
                        refine t_getk (ci := 10) (C := RX10) (T := TX10) (N := 8) hx hb hts iX10 hown hw rfl 0 (by decide) (hts _ tw_282) (fun _ h9 => h9) dX11_winters_105 f_v1_X10_0 ?_
                        refine lv_aload_n hx hb dX11_winters_108 rfl (lv_at hl 0 rfl) ?_
                        refine t_getk (ci := 11) (C := RX11) (T := TX11) (N := 12) hx hb hts iX11 hown hw rfl 11 (by decide) (hts _ tw_434) (fun _ h9 => h9) dX11_winters_109 f_a0_X11_11 ?_
                        refine lv_aload_n hx hb dX11_winters_112 rfl (lv_at hl 0 rfl) ?_
                        refine t_callq (va_runV (As := []) (rest := [.ref v84, .ref v4, .ref v61]) ⟨hx, hb, hml, hown, hts⟩ (t_X11_ruleInForce l dC dI tys κ B w_2 hw.2.2.2.2 a0 k_a0 H.size) (cwV 0 hts (gUV tw_756 tw_758 ts_1_3 tw_1 tw_759) rfl rfl rfl (by decide +kernel) ⟨(Nat.le_of_ble_eq_true rfl), (Nat.le_of_ble_eq_true rfl)⟩) ⟨cPre.blind, t_recv hw (ci := 11) k_a0 rfl rfl, cPre.use hw.2.1 hw.1 hw.2.2.1 hE⟩ rfl rfl hl.1 rfl (lv_room (Nat.le_of_ble_eq_true rfl)) dX11_winters_113 ⟨(Nat.le_of_ble_eq_true rfl), (Nat.le_of_ble_eq_true rfl)⟩) hw hA (fun _ _ h => h.2.1) (fun v113 w_3 H locs hp hw => ?_)
                        obtain ⟨k_v113, _, hm⟩ := hp
                        have hM := hM.trans hm (by decide) (by decide)
                        have f_a0_X11_5 := hm.1 _ _ _ _ f_a0_X11_5 (by decide)
                        have f_a0_X11_9 := hm.1 _ _ _ _ f_a0_X11_9 (by decide)
                        have f_v1_X10_0 := hm.1 _ _ _ _ f_v1_X10_0 (by decide)
                        have f_v1_X10_3 := hm.1 _ _ _ _ f_v1_X10_3 (by decide)
                        have f_v4_X0_0 := hm.1 _ _ _ _ f_v4_X0_0 (by decide)
                        have f_a0_X11_11 := hm.1 _ _ _ _ f_a0_X11_11 (by decide)
                        have f_v1_X10_1 := hm.1 _ _ _ _ f_v1_X10_1 (by decide)
                        have f_v91_X8_1 := hm.1 _ _ _ _ f_v91_X8_1 (by decide)
                        refine lv_iload_n hx hb dX11_winters_116 rfl (lv_at hl 2 rfl) ?_
                        refine lv_iload_n hx hb dX11_winters_117 rfl (lv_at hl 3 rfl) ?_
                        refine t_callv (va_runV (As := [.ref v4, .ref v84, va_rf v113, .int a2, .int a3]) (rest := []) ⟨hx, hb, hml, hown, hts⟩ (t_X3_passWinter l dC dI tys κ B w_3 hw.2.2.2.2 v61 k_v61 v4 k_v4 v84 k_v84 v113 k_v113 a2 (by omega) (by omega) a3 (by omega) (by omega) H.size) (cwV 5 hts (gUV tw_1075 tw_1076 tw_1077 tw_11 tw_1078) rfl rfl rfl (by decide +kernel) ⟨(Nat.le_of_ble_eq_true rfl), (Nat.le_of_ble_eq_true rfl)⟩) ⟨cPre.blind, t_recv hw (ci := 3) k_v61 rfl rfl, cPre.use hw.2.1 hw.1 hw.2.2.1 hE⟩ rfl rfl hl.1 rfl (lv_room (Nat.le_of_ble_eq_true rfl)) dX11_winters_118 ⟨(Nat.le_of_ble_eq_true rfl), (Nat.le_of_ble_eq_true rfl)⟩) hw hA (fun _ h => h.1) (fun w_4 H locs hp hw => ?_)
                        obtain ⟨_, hm⟩ := hp
                        have hM := hM.trans hm (by decide) (by decide)
                        have f_a0_X11_5 := hm.1 _ _ _ _ f_a0_X11_5 (by decide)
                        have f_a0_X11_9 := hm.1 _ _ _ _ f_a0_X11_9 (by decide)
                        have f_v1_X10_0 := hm.1 _ _ _ _ f_v1_X10_0 (by decide)
                        have f_v1_X10_3 := hm.1 _ _ _ _ f_v1_X10_3 (by decide)
                        have f_v4_X0_0 := hm.1 _ _ _ _ f_v4_X0_0 (by decide)
                        have f_a0_X11_11 := hm.1 _ _ _ _ f_a0_X11_11 (by decide)
                        have f_v1_X10_1 := hm.1 _ _ _ _ f_v1_X10_1 (by decide)
                        obtain ⟨v121, e_v121⟩ : ∃ y : Int32, y = p77_l5 + 1 := ⟨_, rfl⟩
                        refine lv_iinc (v := v121) (lv' := [(5, .int v121), (0, .ref a0), (1, .int a1), (2, .int a2), (3, .int a3), (4, .int a4)]) hx hb dX11_winters_121 hl (k := 5) rfl e_v121.symm (by decide) rfl (fun ls hl => ?_)
                        have e_v121 : v121.toInt = p77_l5.toInt + 1 := ad_i e_v121 rfl li_1 (by omega) (by omega)
                        refine lv_goto (tgt := 77) hx hb dX11_winters_124 (by decide) ?_
                        exact ih_77 _ _ _ _ (by omega) ⟨w_4, v121, hw, hM, (by omega), (by omega), f_a0_X11_5, f_a0_X11_9, f_v1_X10_0, f_v1_X10_3, f_v4_X0_0, (lv_sub hl [1, 2, 3, 4, 5, 0] rfl), rfl⟩
                    exact J77 _ _ _ _ ⟨w_1, 0, hw, hM, (by decide), (by decide), f_a0_X11_5, f_a0_X11_9, f_v1_X10_0, f_v1_X10_3, f_v4_X0_0, (lv_sub hl [1, 2, 3, 4, 5, 0] rfl), rfl⟩
                  · simp only [fa_lt, fa_le, fa_eq, li_1] at c_55
                    refine lv_iconst (v := (-1)) hx hb dX11_winters_58 (by decide) ?_
                    rw [hQ]
                    refine W.widen (k := 0) (n := 0) (Nat.le_refl _) (Nat.le_refl _) ?_
                    exact W.iret (v := (-1)) hx hb hr (fun t ht hW => ⟨⟨(-1), ws, rfl, ⟨hw.2.2.2.2, hM⟩, by rw [ht]; exact hw.2.1, va_K.moved hW.alike hw.1, hw.2.2.1⟩, hw.2.2.2.1.F ht⟩) hw.2.2.2.1.2.2 dX11_winters_59
          · simp only [fa_lt, fa_le, fa_eq, li_60] at c_32
            refine lv_iconst (v := (-1)) hx hb dX11_winters_35 (by decide) ?_
            rw [hQ]
            refine W.widen (k := 0) (n := 0) (Nat.le_refl _) (Nat.le_refl _) ?_
            exact W.iret (v := (-1)) hx hb hr (fun t ht hW => ⟨⟨(-1), ws, rfl, ⟨hw.2.2.2.2, hM⟩, by rw [ht]; exact hw.2.1, va_K.moved hW.alike hw.1, hw.2.2.1⟩, hw.2.2.2.1.F ht⟩) hw.2.2.2.1.2.2 dX11_winters_36
