theorem ts_3_4 : Cond.selects "BoyBishopModel" ⟨"BoyBishopModel", "isChoirWord", "()Z"⟩ ⟨"BoyBishopModel", "isChoirWord", "()Z"⟩ ∈ gT := gT_in (List.mem_append_left _ (List.mem_map.mpr ⟨(⟨"BoyBishopModel", "isChoirWord", "()Z"⟩, 38), (List.mem_append_right _ (List.mem_append_right _ (List.mem_append_right _ (List.mem_append_left _ (List.mem_of_getElem? (i := 4) rfl))))), rfl⟩)) rfl
theorem ts_3_8 : Cond.selects "BoyBishopModel" ⟨"BoyBishopModel", "choirLineHere", "(I)Z"⟩ ⟨"BoyBishopModel", "choirLineHere", "(I)Z"⟩ ∈ gT := gT_in (List.mem_append_left _ (List.mem_map.mpr ⟨(⟨"BoyBishopModel", "choirLineHere", "(I)Z"⟩, 38), (List.mem_append_right _ (List.mem_append_right _ (List.mem_append_right _ (List.mem_append_left _ (List.mem_of_getElem? (i := 8) rfl))))), rfl⟩)) rfl
theorem ts_4_11 : Cond.selects "BoyBishopModel" ⟨"BoyBishopModel", "takesWord", "(J)Z"⟩ ⟨"BoyBishopModel", "takesWord", "(J)Z"⟩ ∈ gT := gT_in (List.mem_append_left _ (List.mem_map.mpr ⟨(⟨"BoyBishopModel", "takesWord", "(J)Z"⟩, 38), (List.mem_append_right _ (List.mem_append_right _ (List.mem_append_right _ (List.mem_append_right _ (List.mem_append_left _ (List.mem_of_getElem? (i := 11) rfl)))))), rfl⟩)) rfl
theorem ts_4_12 : Cond.selects "BoyBishopModel" ⟨"BoyBishopModel", "tested", "()Z"⟩ ⟨"BoyBishopModel", "tested", "()Z"⟩ ∈ gT := gT_in (List.mem_append_left _ (List.mem_map.mpr ⟨(⟨"BoyBishopModel", "tested", "()Z"⟩, 38), (List.mem_append_right _ (List.mem_append_right _ (List.mem_append_right _ (List.mem_append_right _ (List.mem_append_left _ (List.mem_of_getElem? (i := 12) rfl)))))), rfl⟩)) rfl
theorem ts_4_13 : Cond.selects "BoyBishopModel" ⟨"BoyBishopModel", "fact", "()Z"⟩ ⟨"BoyBishopModel", "fact", "()Z"⟩ ∈ gT := gT_in (List.mem_append_left _ (List.mem_map.mpr ⟨(⟨"BoyBishopModel", "fact", "()Z"⟩, 38), (List.mem_append_right _ (List.mem_append_right _ (List.mem_append_right _ (List.mem_append_right _ (List.mem_append_left _ (List.mem_of_getElem? (i := 13) rfl)))))), rfl⟩)) rfl
theorem ts_4_4 : Cond.selects "BoyBishopModel" ⟨"BoyBishopModel", "isVoteHere", "()Z"⟩ ⟨"BoyBishopModel", "isVoteHere", "()Z"⟩ ∈ gT := gT_in (List.mem_append_left _ (List.mem_map.mpr ⟨(⟨"BoyBishopModel", "isVoteHere", "()Z"⟩, 38), (List.mem_append_right _ (List.mem_append_right _ (List.mem_append_right _ (List.mem_append_right _ (List.mem_append_left _ (List.mem_of_getElem? (i := 4) rfl)))))), rfl⟩)) rfl
theorem ts_5_0 : Cond.selects "BoyBishopModel" ⟨"BoyBishopModel", "closes", "()V"⟩ ⟨"BoyBishopModel", "closes", "()V"⟩ ∈ gT := gT_in (List.mem_append_left _ (List.mem_map.mpr ⟨(⟨"BoyBishopModel", "closes", "()V"⟩, 38), (List.mem_append_right _ (List.mem_append_right _ (List.mem_append_right _ (List.mem_append_right _ (List.mem_append_right _ (List.mem_append_left _ (List.mem_of_getElem? (i := 0) rfl))))))), rfl⟩)) rfl
theorem tw_1139 : (Jvm.Cond.fieldLink "BoyBishopModel" (259 : Nat) "BoyBishopModel" "lines" "I") ∈ gT := gT_in (List.mem_append_right _ (List.mem_append_right _ (List.mem_append_right _ (List.mem_append_right _ (List.mem_append_right _ (List.mem_append_left _ (List.mem_of_getElem? (i := 179) rfl))))))) rfl
theorem tw_1268 : (Jvm.Cond.methodLink "BoyBishopModel" (254 : Nat) ({ cls := "BoyBishopModel", name := "isChoirWord", desc := "()Z" } : Jvm.MethodName)) ∈ gT := gT_in (List.mem_append_right _ (List.mem_append_right _ (List.mem_append_right _ (List.mem_append_right _ (List.mem_append_right _ (List.mem_append_right _ (List.mem_append_left _ (List.mem_of_getElem? (i := 68) rfl)))))))) rfl
theorem tw_1270 : (Jvm.Cond.instanceMethod ({ cls := "BoyBishopModel", name := "isChoirWord", desc := "()Z" } : Jvm.MethodName)) ∈ gT := gT_in (List.mem_append_right _ (List.mem_append_right _ (List.mem_append_right _ (List.mem_append_right _ (List.mem_append_right _ (List.mem_append_right _ (List.mem_append_left _ (List.mem_of_getElem? (i := 70) rfl)))))))) rfl
theorem tw_1271 : (Jvm.Cond.code ({ cls := "BoyBishopModel", name := "isChoirWord", desc := "()Z" } : Jvm.MethodName) prog_14_method_41_code (1 : Nat) (Option.some Jvm.ClassFile.FieldType.boolean)) ∈ gT := gT_in (List.mem_append_right _ (List.mem_append_right _ (List.mem_append_right _ (List.mem_append_right _ (List.mem_append_right _ (List.mem_append_right _ (List.mem_append_left _ (List.mem_of_getElem? (i := 71) rfl)))))))) rfl
theorem tw_1287 : (Jvm.Cond.constantLong "BoyBishopModel" (257 : Nat) (1987015781 : Int64)) ∈ gT := gT_in (List.mem_append_right _ (List.mem_append_right _ (List.mem_append_right _ (List.mem_append_right _ (List.mem_append_right _ (List.mem_append_right _ (List.mem_append_left _ (List.mem_of_getElem? (i := 87) rfl)))))))) rfl
theorem tw_1292 : (Jvm.Cond.methodLink "BoyBishopModel" (262 : Nat) ({ cls := "BoyBishopModel", name := "choirLineHere", desc := "(I)Z" } : Jvm.MethodName)) ∈ gT := gT_in (List.mem_append_right _ (List.mem_append_right _ (List.mem_append_right _ (List.mem_append_right _ (List.mem_append_right _ (List.mem_append_right _ (List.mem_append_left _ (List.mem_of_getElem? (i := 92) rfl)))))))) rfl
theorem tw_1294 : (Jvm.Cond.instanceMethod ({ cls := "BoyBishopModel", name := "choirLineHere", desc := "(I)Z" } : Jvm.MethodName)) ∈ gT := gT_in (List.mem_append_right _ (List.mem_append_right _ (List.mem_append_right _ (List.mem_append_right _ (List.mem_append_right _ (List.mem_append_right _ (List.mem_append_left _ (List.mem_of_getElem? (i := 94) rfl)))))))) rfl
theorem tw_1295 : (Jvm.Cond.code ({ cls := "BoyBishopModel", name := "choirLineHere", desc := "(I)Z" } : Jvm.MethodName) prog_14_method_40_code (2 : Nat) (Option.some Jvm.ClassFile.FieldType.boolean)) ∈ gT := gT_in (List.mem_append_right _ (List.mem_append_right _ (List.mem_append_right _ (List.mem_append_right _ (List.mem_append_right _ (List.mem_append_right _ (List.mem_append_left _ (List.mem_of_getElem? (i := 95) rfl)))))))) rfl
theorem tw_1343 : (Jvm.Cond.methodLink "BoyBishopModel" (265 : Nat) ({ cls := "BoyBishopModel", name := "isVoteHere", desc := "()Z" } : Jvm.MethodName)) ∈ gT := gT_in (List.mem_append_right _ (List.mem_append_right _ (List.mem_append_right _ (List.mem_append_right _ (List.mem_append_right _ (List.mem_append_right _ (List.mem_append_left _ (List.mem_of_getElem? (i := 143) rfl)))))))) rfl
theorem tw_1345 : (Jvm.Cond.instanceMethod ({ cls := "BoyBishopModel", name := "isVoteHere", desc := "()Z" } : Jvm.MethodName)) ∈ gT := gT_in (List.mem_append_right _ (List.mem_append_right _ (List.mem_append_right _ (List.mem_append_right _ (List.mem_append_right _ (List.mem_append_right _ (List.mem_append_left _ (List.mem_of_getElem? (i := 145) rfl)))))))) rfl
theorem tw_1346 : (Jvm.Cond.code ({ cls := "BoyBishopModel", name := "isVoteHere", desc := "()Z" } : Jvm.MethodName) prog_14_method_31_code (2 : Nat) (Option.some Jvm.ClassFile.FieldType.boolean)) ∈ gT := gT_in (List.mem_append_right _ (List.mem_append_right _ (List.mem_append_right _ (List.mem_append_right _ (List.mem_append_right _ (List.mem_append_right _ (List.mem_append_left _ (List.mem_of_getElem? (i := 146) rfl)))))))) rfl
theorem tw_1381 : (Jvm.Cond.constantLong "BoyBishopModel" (211 : Nat) (26982 : Int64)) ∈ gT := gT_in (List.mem_append_right _ (List.mem_append_right _ (List.mem_append_right _ (List.mem_append_right _ (List.mem_append_right _ (List.mem_append_right _ (List.mem_append_left _ (List.mem_of_getElem? (i := 181) rfl)))))))) rfl
theorem tw_1382 : (Jvm.Cond.methodLink "BoyBishopModel" (213 : Nat) ({ cls := "BoyBishopModel", name := "takesWord", desc := "(J)Z" } : Jvm.MethodName)) ∈ gT := gT_in (List.mem_append_right _ (List.mem_append_right _ (List.mem_append_right _ (List.mem_append_right _ (List.mem_append_right _ (List.mem_append_right _ (List.mem_append_left _ (List.mem_of_getElem? (i := 182) rfl)))))))) rfl
theorem tw_1384 : (Jvm.Cond.instanceMethod ({ cls := "BoyBishopModel", name := "takesWord", desc := "(J)Z" } : Jvm.MethodName)) ∈ gT := gT_in (List.mem_append_right _ (List.mem_append_right _ (List.mem_append_right _ (List.mem_append_right _ (List.mem_append_right _ (List.mem_append_right _ (List.mem_append_left _ (List.mem_of_getElem? (i := 184) rfl)))))))) rfl
theorem tw_1385 : (Jvm.Cond.code ({ cls := "BoyBishopModel", name := "takesWord", desc := "(J)Z" } : Jvm.MethodName) prog_14_method_15_code (3 : Nat) (Option.some Jvm.ClassFile.FieldType.boolean)) ∈ gT := gT_in (List.mem_append_right _ (List.mem_append_right _ (List.mem_append_right _ (List.mem_append_right _ (List.mem_append_right _ (List.mem_append_right _ (List.mem_append_left _ (List.mem_of_getElem? (i := 185) rfl)))))))) rfl
theorem tw_1386 : (Jvm.Cond.methodLink "BoyBishopModel" (216 : Nat) ({ cls := "BoyBishopModel", name := "tested", desc := "()Z" } : Jvm.MethodName)) ∈ gT := gT_in (List.mem_append_right _ (List.mem_append_right _ (List.mem_append_right _ (List.mem_append_right _ (List.mem_append_right _ (List.mem_append_right _ (List.mem_append_left _ (List.mem_of_getElem? (i := 186) rfl)))))))) rfl
theorem tw_1388 : (Jvm.Cond.instanceMethod ({ cls := "BoyBishopModel", name := "tested", desc := "()Z" } : Jvm.MethodName)) ∈ gT := gT_in (List.mem_append_right _ (List.mem_append_right _ (List.mem_append_right _ (List.mem_append_right _ (List.mem_append_right _ (List.mem_append_right _ (List.mem_append_left _ (List.mem_of_getElem? (i := 188) rfl)))))))) rfl
theorem tw_1389 : (Jvm.Cond.code ({ cls := "BoyBishopModel", name := "tested", desc := "()Z" } : Jvm.MethodName) prog_14_method_30_code (3 : Nat) (Option.some Jvm.ClassFile.FieldType.boolean)) ∈ gT := gT_in (List.mem_append_right _ (List.mem_append_right _ (List.mem_append_right _ (List.mem_append_right _ (List.mem_append_right _ (List.mem_append_right _ (List.mem_append_left _ (List.mem_of_getElem? (i := 189) rfl)))))))) rfl
theorem tw_1390 : (Jvm.Cond.methodLink "BoyBishopModel" (201 : Nat) ({ cls := "BoyBishopModel", name := "fact", desc := "()Z" } : Jvm.MethodName)) ∈ gT := gT_in (List.mem_append_right _ (List.mem_append_right _ (List.mem_append_right _ (List.mem_append_right _ (List.mem_append_right _ (List.mem_append_right _ (List.mem_append_left _ (List.mem_of_getElem? (i := 190) rfl)))))))) rfl
theorem tw_1392 : (Jvm.Cond.instanceMethod ({ cls := "BoyBishopModel", name := "fact", desc := "()Z" } : Jvm.MethodName)) ∈ gT := gT_in (List.mem_append_right _ (List.mem_append_right _ (List.mem_append_right _ (List.mem_append_right _ (List.mem_append_right _ (List.mem_append_right _ (List.mem_append_left _ (List.mem_of_getElem? (i := 192) rfl)))))))) rfl
theorem tw_1393 : (Jvm.Cond.code ({ cls := "BoyBishopModel", name := "fact", desc := "()Z" } : Jvm.MethodName) prog_14_method_27_code (3 : Nat) (Option.some Jvm.ClassFile.FieldType.boolean)) ∈ gT := gT_in (List.mem_append_right _ (List.mem_append_right _ (List.mem_append_right _ (List.mem_append_right _ (List.mem_append_right _ (List.mem_append_right _ (List.mem_append_left _ (List.mem_of_getElem? (i := 193) rfl)))))))) rfl
theorem tw_1403 : (Jvm.Cond.methodLink "BoyBishopModel" (204 : Nat) ({ cls := "BoyBishopModel", name := "closes", desc := "()V" } : Jvm.MethodName)) ∈ gT := gT_in (List.mem_append_right _ (List.mem_append_right _ (List.mem_append_right _ (List.mem_append_right _ (List.mem_append_right _ (List.mem_append_right _ (List.mem_append_left _ (List.mem_of_getElem? (i := 203) rfl)))))))) rfl
theorem tw_1405 : (Jvm.Cond.instanceMethod ({ cls := "BoyBishopModel", name := "closes", desc := "()V" } : Jvm.MethodName)) ∈ gT := gT_in (List.mem_append_right _ (List.mem_append_right _ (List.mem_append_right _ (List.mem_append_right _ (List.mem_append_right _ (List.mem_append_right _ (List.mem_append_left _ (List.mem_of_getElem? (i := 205) rfl)))))))) rfl
theorem tw_1406 : (Jvm.Cond.code ({ cls := "BoyBishopModel", name := "closes", desc := "()V" } : Jvm.MethodName) prog_14_method_29_code (1 : Nat) (Option.none : Option Jvm.ClassFile.FieldType)) ∈ gT := gT_in (List.mem_append_right _ (List.mem_append_right _ (List.mem_append_right _ (List.mem_append_right _ (List.mem_append_right _ (List.mem_append_right _ (List.mem_append_left _ (List.mem_of_getElem? (i := 206) rfl)))))))) rfl
theorem tw_1418 : (Jvm.Cond.constantLong "BoyBishopModel" (207 : Nat) (6385252 : Int64)) ∈ gT := gT_in (List.mem_append_right _ (List.mem_append_right _ (List.mem_append_right _ (List.mem_append_right _ (List.mem_append_right _ (List.mem_append_right _ (List.mem_append_left _ (List.mem_of_getElem? (i := 218) rfl)))))))) rfl
theorem tw_1419 : (Jvm.Cond.constantLong "BoyBishopModel" (209 : Nat) (28530 : Int64)) ∈ gT := gT_in (List.mem_append_right _ (List.mem_append_right _ (List.mem_append_right _ (List.mem_append_right _ (List.mem_append_right _ (List.mem_append_right _ (List.mem_append_left _ (List.mem_of_getElem? (i := 219) rfl)))))))) rfl
theorem dX12_clauseHere_0 : decode cX12_clauseHere 0 = .ok (.aload_n 0, 1) := by decide +kernel
theorem dX12_clauseHere_1 : decode cX12_clauseHere 1 = .ok (.invokevirtual 96, 3) := by decide +kernel
theorem dX12_clauseHere_4 : decode cX12_clauseHere 4 = .ok (.pop, 1) := by decide +kernel
theorem dX12_clauseHere_5 : decode cX12_clauseHere 5 = .ok (.aload_n 0, 1) := by decide +kernel
theorem dX12_clauseHere_6 : decode cX12_clauseHere 6 = .ok (.getfield 93, 3) := by decide +kernel
theorem dX12_clauseHere_9 : decode cX12_clauseHere 9 = .ok (.istore_n 1, 1) := by decide +kernel
theorem dX12_clauseHere_10 : decode cX12_clauseHere 10 = .ok (.aload_n 0, 1) := by decide +kernel
theorem dX12_clauseHere_11 : decode cX12_clauseHere 11 = .ok (.getfield 147, 3) := by decide +kernel
theorem dX12_clauseHere_14 : decode cX12_clauseHere 14 = .ok (.bipush 6, 2) := by decide +kernel
theorem dX12_clauseHere_16 : decode cX12_clauseHere 16 = .ok (.if_icmp .ne 7, 3) := by decide +kernel
theorem dX12_clauseHere_19 : decode cX12_clauseHere 19 = .ok (.iconst 1, 1) := by decide +kernel
theorem dX12_clauseHere_20 : decode cX12_clauseHere 20 = .ok (.goto 4, 3) := by decide +kernel
theorem dX12_clauseHere_23 : decode cX12_clauseHere 23 = .ok (.iconst 0, 1) := by decide +kernel
theorem dX12_clauseHere_24 : decode cX12_clauseHere 24 = .ok (.istore_n 2, 1) := by decide +kernel
theorem dX12_clauseHere_25 : decode cX12_clauseHere 25 = .ok (.iload_n 2, 1) := by decide +kernel
theorem dX12_clauseHere_26 : decode cX12_clauseHere 26 = .ok (.ifCond .eq 13, 3) := by decide +kernel
theorem dX12_clauseHere_29 : decode cX12_clauseHere 29 = .ok (.aload_n 0, 1) := by decide +kernel
theorem dX12_clauseHere_30 : decode cX12_clauseHere 30 = .ok (.invokevirtual 254, 3) := by decide +kernel
theorem dX12_clauseHere_33 : decode cX12_clauseHere 33 = .ok (.ifCond .ne 23, 3) := by decide +kernel
theorem dX12_clauseHere_36 : decode cX12_clauseHere 36 = .ok (.goto 13, 3) := by decide +kernel
theorem dX12_clauseHere_39 : decode cX12_clauseHere 39 = .ok (.aload_n 0, 1) := by decide +kernel
theorem dX12_clauseHere_40 : decode cX12_clauseHere 40 = .ok (.ldc2_w 257, 3) := by decide +kernel
theorem dX12_clauseHere_43 : decode cX12_clauseHere 43 = .ok (.invokevirtual 104, 3) := by decide +kernel
theorem dX12_clauseHere_46 : decode cX12_clauseHere 46 = .ok (.ifCond .ne 10, 3) := by decide +kernel
theorem dX12_clauseHere_49 : decode cX12_clauseHere 49 = .ok (.aload_n 0, 1) := by decide +kernel
theorem dX12_clauseHere_50 : decode cX12_clauseHere 50 = .ok (.iconst 0, 1) := by decide +kernel
theorem dX12_clauseHere_51 : decode cX12_clauseHere 51 = .ok (.iload_n 1, 1) := by decide +kernel
theorem dX12_clauseHere_52 : decode cX12_clauseHere 52 = .ok (.invokevirtual 114, 3) := by decide +kernel
theorem dX12_clauseHere_55 : decode cX12_clauseHere 55 = .ok (.ireturn, 1) := by decide +kernel
theorem dX12_clauseHere_56 : decode cX12_clauseHere 56 = .ok (.aload_n 0, 1) := by decide +kernel
theorem dX12_clauseHere_57 : decode cX12_clauseHere 57 = .ok (.getfield 259, 3) := by decide +kernel
theorem dX12_clauseHere_60 : decode cX12_clauseHere 60 = .ok (.iload_n 2, 1) := by decide +kernel
theorem dX12_clauseHere_61 : decode cX12_clauseHere 61 = .ok (.ifCond .eq 8, 3) := by decide +kernel
theorem dX12_clauseHere_64 : decode cX12_clauseHere 64 = .ok (.bipush 40, 2) := by decide +kernel
theorem dX12_clauseHere_66 : decode cX12_clauseHere 66 = .ok (.goto 5, 3) := by decide +kernel
theorem dX12_clauseHere_69 : decode cX12_clauseHere 69 = .ok (.bipush 12, 2) := by decide +kernel
theorem dX12_clauseHere_71 : decode cX12_clauseHere 71 = .ok (.if_icmp .ne 10, 3) := by decide +kernel
theorem dX12_clauseHere_74 : decode cX12_clauseHere 74 = .ok (.aload_n 0, 1) := by decide +kernel
theorem dX12_clauseHere_75 : decode cX12_clauseHere 75 = .ok (.iconst 4, 1) := by decide +kernel
theorem dX12_clauseHere_76 : decode cX12_clauseHere 76 = .ok (.iload_n 1, 1) := by decide +kernel
theorem dX12_clauseHere_77 : decode cX12_clauseHere 77 = .ok (.invokevirtual 114, 3) := by decide +kernel
theorem dX12_clauseHere_80 : decode cX12_clauseHere 80 = .ok (.ireturn, 1) := by decide +kernel
theorem dX12_clauseHere_81 : decode cX12_clauseHere 81 = .ok (.aload_n 0, 1) := by decide +kernel
theorem dX12_clauseHere_82 : decode cX12_clauseHere 82 = .ok (.dup, 1) := by decide +kernel
theorem dX12_clauseHere_83 : decode cX12_clauseHere 83 = .ok (.getfield 259, 3) := by decide +kernel
theorem dX12_clauseHere_86 : decode cX12_clauseHere 86 = .ok (.iconst 1, 1) := by decide +kernel
theorem dX12_clauseHere_87 : decode cX12_clauseHere 87 = .ok (.iadd, 1) := by decide +kernel
theorem dX12_clauseHere_88 : decode cX12_clauseHere 88 = .ok (.putfield 259, 3) := by decide +kernel
theorem dX12_clauseHere_91 : decode cX12_clauseHere 91 = .ok (.iload_n 2, 1) := by decide +kernel
theorem dX12_clauseHere_92 : decode cX12_clauseHere 92 = .ok (.ifCond .eq 11, 3) := by decide +kernel
theorem dX12_clauseHere_95 : decode cX12_clauseHere 95 = .ok (.aload_n 0, 1) := by decide +kernel
theorem dX12_clauseHere_96 : decode cX12_clauseHere 96 = .ok (.iload_n 1, 1) := by decide +kernel
theorem dX12_clauseHere_97 : decode cX12_clauseHere 97 = .ok (.invokevirtual 262, 3) := by decide +kernel
theorem dX12_clauseHere_100 : decode cX12_clauseHere 100 = .ok (.goto 7, 3) := by decide +kernel
theorem dX12_clauseHere_103 : decode cX12_clauseHere 103 = .ok (.aload_n 0, 1) := by decide +kernel
theorem dX12_clauseHere_104 : decode cX12_clauseHere 104 = .ok (.invokevirtual 265, 3) := by decide +kernel
theorem dX12_clauseHere_107 : decode cX12_clauseHere 107 = .ok (.ireturn, 1) := by decide +kernel
theorem dX12_isVoteHere_0 : decode cX12_isVoteHere 0 = .ok (.aload_n 0, 1) := by decide +kernel
theorem dX12_isVoteHere_1 : decode cX12_isVoteHere 1 = .ok (.invokevirtual 108, 3) := by decide +kernel
theorem dX12_isVoteHere_4 : decode cX12_isVoteHere 4 = .ok (.bipush 48, 2) := by decide +kernel
theorem dX12_isVoteHere_6 : decode cX12_isVoteHere 6 = .ok (.aload_n 0, 1) := by decide +kernel
theorem dX12_isVoteHere_7 : decode cX12_isVoteHere 7 = .ok (.getfield 147, 3) := by decide +kernel
theorem dX12_isVoteHere_10 : decode cX12_isVoteHere 10 = .ok (.imul, 1) := by decide +kernel
theorem dX12_isVoteHere_11 : decode cX12_isVoteHere 11 = .ok (.iconst 4, 1) := by decide +kernel
theorem dX12_isVoteHere_12 : decode cX12_isVoteHere 12 = .ok (.aload_n 0, 1) := by decide +kernel
theorem dX12_isVoteHere_13 : decode cX12_isVoteHere 13 = .ok (.getfield 23, 3) := by decide +kernel
theorem dX12_isVoteHere_16 : decode cX12_isVoteHere 16 = .ok (.aload_n 0, 1) := by decide +kernel
theorem dX12_isVoteHere_17 : decode cX12_isVoteHere 17 = .ok (.getfield 147, 3) := by decide +kernel
theorem dX12_isVoteHere_20 : decode cX12_isVoteHere 20 = .ok (.iaload, 1) := by decide +kernel
theorem dX12_isVoteHere_21 : decode cX12_isVoteHere 21 = .ok (.imul, 1) := by decide +kernel
theorem dX12_isVoteHere_22 : decode cX12_isVoteHere 22 = .ok (.iadd, 1) := by decide +kernel
theorem dX12_isVoteHere_23 : decode cX12_isVoteHere 23 = .ok (.istore_n 1, 1) := by decide +kernel
theorem dX12_isVoteHere_24 : decode cX12_isVoteHere 24 = .ok (.aload_n 0, 1) := by decide +kernel
theorem dX12_isVoteHere_25 : decode cX12_isVoteHere 25 = .ok (.getfield 20, 3) := by decide +kernel
theorem dX12_isVoteHere_28 : decode cX12_isVoteHere 28 = .ok (.iload_n 1, 1) := by decide +kernel
theorem dX12_isVoteHere_29 : decode cX12_isVoteHere 29 = .ok (.aload_n 0, 1) := by decide +kernel
theorem dX12_isVoteHere_30 : decode cX12_isVoteHere 30 = .ok (.getfield 17, 3) := by decide +kernel
theorem dX12_isVoteHere_33 : decode cX12_isVoteHere 33 = .ok (.aload_n 0, 1) := by decide +kernel
theorem dX12_isVoteHere_34 : decode cX12_isVoteHere 34 = .ok (.getfield 147, 3) := by decide +kernel
theorem dX12_isVoteHere_37 : decode cX12_isVoteHere 37 = .ok (.iaload, 1) := by decide +kernel
theorem dX12_isVoteHere_38 : decode cX12_isVoteHere 38 = .ok (.iastore, 1) := by decide +kernel
theorem dX12_isVoteHere_39 : decode cX12_isVoteHere 39 = .ok (.aload_n 0, 1) := by decide +kernel
theorem dX12_isVoteHere_40 : decode cX12_isVoteHere 40 = .ok (.invokevirtual 184, 3) := by decide +kernel
theorem dX12_isVoteHere_43 : decode cX12_isVoteHere 43 = .ok (.ifCond .ne 5, 3) := by decide +kernel
theorem dX12_isVoteHere_46 : decode cX12_isVoteHere 46 = .ok (.iconst 0, 1) := by decide +kernel
theorem dX12_isVoteHere_47 : decode cX12_isVoteHere 47 = .ok (.ireturn, 1) := by decide +kernel
theorem dX12_isVoteHere_48 : decode cX12_isVoteHere 48 = .ok (.aload_n 0, 1) := by decide +kernel
theorem dX12_isVoteHere_49 : decode cX12_isVoteHere 49 = .ok (.getfield 20, 3) := by decide +kernel
theorem dX12_isVoteHere_52 : decode cX12_isVoteHere 52 = .ok (.iload_n 1, 1) := by decide +kernel
theorem dX12_isVoteHere_53 : decode cX12_isVoteHere 53 = .ok (.iconst 1, 1) := by decide +kernel
theorem dX12_isVoteHere_54 : decode cX12_isVoteHere 54 = .ok (.iadd, 1) := by decide +kernel
theorem dX12_isVoteHere_55 : decode cX12_isVoteHere 55 = .ok (.aload_n 0, 1) := by decide +kernel
theorem dX12_isVoteHere_56 : decode cX12_isVoteHere 56 = .ok (.getfield 17, 3) := by decide +kernel
theorem dX12_isVoteHere_59 : decode cX12_isVoteHere 59 = .ok (.aload_n 0, 1) := by decide +kernel
theorem dX12_isVoteHere_60 : decode cX12_isVoteHere 60 = .ok (.getfield 147, 3) := by decide +kernel
theorem dX12_isVoteHere_63 : decode cX12_isVoteHere 63 = .ok (.iaload, 1) := by decide +kernel
theorem dX12_isVoteHere_64 : decode cX12_isVoteHere 64 = .ok (.iastore, 1) := by decide +kernel
theorem dX12_isVoteHere_65 : decode cX12_isVoteHere 65 = .ok (.aload_n 0, 1) := by decide +kernel
theorem dX12_isVoteHere_66 : decode cX12_isVoteHere 66 = .ok (.getfield 20, 3) := by decide +kernel
theorem dX12_isVoteHere_69 : decode cX12_isVoteHere 69 = .ok (.iload_n 1, 1) := by decide +kernel
theorem dX12_isVoteHere_70 : decode cX12_isVoteHere 70 = .ok (.iconst 2, 1) := by decide +kernel
theorem dX12_isVoteHere_71 : decode cX12_isVoteHere 71 = .ok (.iadd, 1) := by decide +kernel
theorem dX12_isVoteHere_72 : decode cX12_isVoteHere 72 = .ok (.iconst (-1), 1) := by decide +kernel
theorem dX12_isVoteHere_73 : decode cX12_isVoteHere 73 = .ok (.iastore, 1) := by decide +kernel
theorem dX12_isVoteHere_74 : decode cX12_isVoteHere 74 = .ok (.aload_n 0, 1) := by decide +kernel
theorem dX12_isVoteHere_75 : decode cX12_isVoteHere 75 = .ok (.ldc2_w 211, 3) := by decide +kernel
theorem dX12_isVoteHere_78 : decode cX12_isVoteHere 78 = .ok (.invokevirtual 213, 3) := by decide +kernel
theorem dX12_isVoteHere_81 : decode cX12_isVoteHere 81 = .ok (.ifCond .eq 29, 3) := by decide +kernel
theorem dX12_isVoteHere_84 : decode cX12_isVoteHere 84 = .ok (.aload_n 0, 1) := by decide +kernel
theorem dX12_isVoteHere_85 : decode cX12_isVoteHere 85 = .ok (.getfield 20, 3) := by decide +kernel
theorem dX12_isVoteHere_88 : decode cX12_isVoteHere 88 = .ok (.iload_n 1, 1) := by decide +kernel
theorem dX12_isVoteHere_89 : decode cX12_isVoteHere 89 = .ok (.iconst 2, 1) := by decide +kernel
theorem dX12_isVoteHere_90 : decode cX12_isVoteHere 90 = .ok (.iadd, 1) := by decide +kernel
theorem dX12_isVoteHere_91 : decode cX12_isVoteHere 91 = .ok (.aload_n 0, 1) := by decide +kernel
theorem dX12_isVoteHere_92 : decode cX12_isVoteHere 92 = .ok (.getfield 17, 3) := by decide +kernel
theorem dX12_isVoteHere_95 : decode cX12_isVoteHere 95 = .ok (.aload_n 0, 1) := by decide +kernel
theorem dX12_isVoteHere_96 : decode cX12_isVoteHere 96 = .ok (.getfield 147, 3) := by decide +kernel
theorem dX12_isVoteHere_99 : decode cX12_isVoteHere 99 = .ok (.iaload, 1) := by decide +kernel
theorem dX12_isVoteHere_100 : decode cX12_isVoteHere 100 = .ok (.iastore, 1) := by decide +kernel
theorem dX12_isVoteHere_101 : decode cX12_isVoteHere 101 = .ok (.aload_n 0, 1) := by decide +kernel
theorem dX12_isVoteHere_102 : decode cX12_isVoteHere 102 = .ok (.invokevirtual 216, 3) := by decide +kernel
theorem dX12_isVoteHere_105 : decode cX12_isVoteHere 105 = .ok (.ifCond .ne 5, 3) := by decide +kernel
theorem dX12_isVoteHere_108 : decode cX12_isVoteHere 108 = .ok (.iconst 0, 1) := by decide +kernel
theorem dX12_isVoteHere_109 : decode cX12_isVoteHere 109 = .ok (.ireturn, 1) := by decide +kernel
theorem dX12_isVoteHere_110 : decode cX12_isVoteHere 110 = .ok (.aload_n 0, 1) := by decide +kernel
theorem dX12_isVoteHere_111 : decode cX12_isVoteHere 111 = .ok (.getfield 20, 3) := by decide +kernel
theorem dX12_isVoteHere_114 : decode cX12_isVoteHere 114 = .ok (.iload_n 1, 1) := by decide +kernel
theorem dX12_isVoteHere_115 : decode cX12_isVoteHere 115 = .ok (.iconst 3, 1) := by decide +kernel
theorem dX12_isVoteHere_116 : decode cX12_isVoteHere 116 = .ok (.iadd, 1) := by decide +kernel
theorem dX12_isVoteHere_117 : decode cX12_isVoteHere 117 = .ok (.aload_n 0, 1) := by decide +kernel
theorem dX12_isVoteHere_118 : decode cX12_isVoteHere 118 = .ok (.getfield 17, 3) := by decide +kernel
theorem dX12_isVoteHere_121 : decode cX12_isVoteHere 121 = .ok (.aload_n 0, 1) := by decide +kernel
theorem dX12_isVoteHere_122 : decode cX12_isVoteHere 122 = .ok (.getfield 147, 3) := by decide +kernel
theorem dX12_isVoteHere_125 : decode cX12_isVoteHere 125 = .ok (.iaload, 1) := by decide +kernel
theorem dX12_isVoteHere_126 : decode cX12_isVoteHere 126 = .ok (.iastore, 1) := by decide +kernel
theorem dX12_isVoteHere_127 : decode cX12_isVoteHere 127 = .ok (.aload_n 0, 1) := by decide +kernel
theorem dX12_isVoteHere_128 : decode cX12_isVoteHere 128 = .ok (.getfield 23, 3) := by decide +kernel
theorem dX12_isVoteHere_131 : decode cX12_isVoteHere 131 = .ok (.aload_n 0, 1) := by decide +kernel
theorem dX12_isVoteHere_132 : decode cX12_isVoteHere 132 = .ok (.getfield 147, 3) := by decide +kernel
theorem dX12_isVoteHere_135 : decode cX12_isVoteHere 135 = .ok (.dup2, 1) := by decide +kernel
theorem dX12_isVoteHere_136 : decode cX12_isVoteHere 136 = .ok (.iaload, 1) := by decide +kernel
theorem dX12_isVoteHere_137 : decode cX12_isVoteHere 137 = .ok (.iconst 1, 1) := by decide +kernel
theorem dX12_isVoteHere_138 : decode cX12_isVoteHere 138 = .ok (.iadd, 1) := by decide +kernel
theorem dX12_isVoteHere_139 : decode cX12_isVoteHere 139 = .ok (.iastore, 1) := by decide +kernel
theorem dX12_isVoteHere_140 : decode cX12_isVoteHere 140 = .ok (.iconst 1, 1) := by decide +kernel
theorem dX12_isVoteHere_141 : decode cX12_isVoteHere 141 = .ok (.ireturn, 1) := by decide +kernel
theorem dX12_tested_0 : decode cX12_tested 0 = .ok (.aload_n 0, 1) := by decide +kernel
theorem dX12_tested_1 : decode cX12_tested 1 = .ok (.iconst 0, 1) := by decide +kernel
theorem dX12_tested_2 : decode cX12_tested 2 = .ok (.putfield 156, 3) := by decide +kernel
theorem dX12_tested_5 : decode cX12_tested 5 = .ok (.aload_n 0, 1) := by decide +kernel
theorem dX12_tested_6 : decode cX12_tested 6 = .ok (.iconst 0, 1) := by decide +kernel
theorem dX12_tested_7 : decode cX12_tested 7 = .ok (.putfield 153, 3) := by decide +kernel
theorem dX12_tested_10 : decode cX12_tested 10 = .ok (.iconst 1, 1) := by decide +kernel
theorem dX12_tested_11 : decode cX12_tested 11 = .ok (.istore_n 1, 1) := by decide +kernel
theorem dX12_tested_12 : decode cX12_tested 12 = .ok (.iload_n 1, 1) := by decide +kernel
theorem dX12_tested_13 : decode cX12_tested 13 = .ok (.ifCond .eq 99, 3) := by decide +kernel
theorem dX12_tested_16 : decode cX12_tested 16 = .ok (.aload_n 0, 1) := by decide +kernel
theorem dX12_tested_17 : decode cX12_tested 17 = .ok (.invokevirtual 201, 3) := by decide +kernel
theorem dX12_tested_20 : decode cX12_tested 20 = .ok (.ifCond .ne 5, 3) := by decide +kernel
theorem dX12_tested_23 : decode cX12_tested 23 = .ok (.iconst 0, 1) := by decide +kernel
theorem dX12_tested_24 : decode cX12_tested 24 = .ok (.ireturn, 1) := by decide +kernel
theorem dX12_tested_25 : decode cX12_tested 25 = .ok (.aload_n 0, 1) := by decide +kernel
theorem dX12_tested_26 : decode cX12_tested 26 = .ok (.invokevirtual 204, 3) := by decide +kernel
theorem dX12_tested_29 : decode cX12_tested 29 = .ok (.aload_n 0, 1) := by decide +kernel
theorem dX12_tested_30 : decode cX12_tested 30 = .ok (.ldc2_w 207, 3) := by decide +kernel
theorem dX12_tested_33 : decode cX12_tested 33 = .ok (.invokevirtual 104, 3) := by decide +kernel
theorem dX12_tested_36 : decode cX12_tested 36 = .ok (.ifCond .ne 13, 3) := by decide +kernel
theorem dX12_tested_39 : decode cX12_tested 39 = .ok (.aload_n 0, 1) := by decide +kernel
theorem dX12_tested_40 : decode cX12_tested 40 = .ok (.ldc2_w 209, 3) := by decide +kernel
theorem dX12_tested_43 : decode cX12_tested 43 = .ok (.invokevirtual 104, 3) := by decide +kernel
theorem dX12_tested_46 : decode cX12_tested 46 = .ok (.ifCond .eq 7, 3) := by decide +kernel
theorem dX12_tested_49 : decode cX12_tested 49 = .ok (.iconst 1, 1) := by decide +kernel
theorem dX12_tested_50 : decode cX12_tested 50 = .ok (.goto 4, 3) := by decide +kernel
theorem dX12_tested_53 : decode cX12_tested 53 = .ok (.iconst 0, 1) := by decide +kernel
theorem dX12_tested_54 : decode cX12_tested 54 = .ok (.istore_n 1, 1) := by decide +kernel
theorem dX12_tested_55 : decode cX12_tested 55 = .ok (.iload_n 1, 1) := by decide +kernel
theorem dX12_tested_56 : decode cX12_tested 56 = .ok (.ifCond .eq (-44), 3) := by decide +kernel
theorem dX12_tested_59 : decode cX12_tested 59 = .ok (.aload_n 0, 1) := by decide +kernel
theorem dX12_tested_60 : decode cX12_tested 60 = .ok (.ldc2_w 207, 3) := by decide +kernel
theorem dX12_tested_63 : decode cX12_tested 63 = .ok (.invokevirtual 104, 3) := by decide +kernel
theorem dX12_tested_66 : decode cX12_tested 66 = .ok (.ifCond .eq 8, 3) := by decide +kernel
theorem dX12_tested_69 : decode cX12_tested 69 = .ok (.bipush 12, 2) := by decide +kernel
theorem dX12_tested_71 : decode cX12_tested 71 = .ok (.goto 5, 3) := by decide +kernel
theorem dX12_tested_74 : decode cX12_tested 74 = .ok (.bipush 13, 2) := by decide +kernel
theorem dX12_tested_76 : decode cX12_tested 76 = .ok (.istore_n 2, 1) := by decide +kernel
theorem dX12_tested_77 : decode cX12_tested 77 = .ok (.aload_n 0, 1) := by decide +kernel
theorem dX12_tested_78 : decode cX12_tested 78 = .ok (.invokevirtual 108, 3) := by decide +kernel
theorem dX12_tested_81 : decode cX12_tested 81 = .ok (.aload_n 0, 1) := by decide +kernel
theorem dX12_tested_82 : decode cX12_tested 82 = .ok (.iload_n 2, 1) := by decide +kernel
theorem dX12_tested_83 : decode cX12_tested 83 = .ok (.invokestatic 159, 3) := by decide +kernel
theorem dX12_tested_86 : decode cX12_tested 86 = .ok (.invokevirtual 195, 3) := by decide +kernel
theorem dX12_tested_89 : decode cX12_tested 89 = .ok (.aload_n 0, 1) := by decide +kernel
theorem dX12_tested_90 : decode cX12_tested 90 = .ok (.getfield 29, 3) := by decide +kernel
theorem dX12_tested_93 : decode cX12_tested 93 = .ok (.aload_n 0, 1) := by decide +kernel
theorem dX12_tested_94 : decode cX12_tested 94 = .ok (.getfield 156, 3) := by decide +kernel
theorem dX12_tested_97 : decode cX12_tested 97 = .ok (.iload_n 2, 1) := by decide +kernel
theorem dX12_tested_98 : decode cX12_tested 98 = .ok (.iastore, 1) := by decide +kernel
theorem dX12_tested_99 : decode cX12_tested 99 = .ok (.aload_n 0, 1) := by decide +kernel
theorem dX12_tested_100 : decode cX12_tested 100 = .ok (.dup, 1) := by decide +kernel
theorem dX12_tested_101 : decode cX12_tested 101 = .ok (.getfield 156, 3) := by decide +kernel
theorem dX12_tested_104 : decode cX12_tested 104 = .ok (.iconst 1, 1) := by decide +kernel
theorem dX12_tested_105 : decode cX12_tested 105 = .ok (.iadd, 1) := by decide +kernel
theorem dX12_tested_106 : decode cX12_tested 106 = .ok (.putfield 156, 3) := by decide +kernel
theorem dX12_tested_109 : decode cX12_tested 109 = .ok (.goto (-97), 3) := by decide +kernel
theorem dX12_tested_112 : decode cX12_tested 112 = .ok (.aload_n 0, 1) := by decide +kernel
theorem dX12_tested_113 : decode cX12_tested 113 = .ok (.invokevirtual 198, 3) := by decide +kernel
theorem dX12_tested_116 : decode cX12_tested 116 = .ok (.ifCond .eq 18, 3) := by decide +kernel
theorem dX12_tested_119 : decode cX12_tested 119 = .ok (.aload_n 0, 1) := by decide +kernel
theorem dX12_tested_120 : decode cX12_tested 120 = .ok (.invokevirtual 96, 3) := by decide +kernel
theorem dX12_tested_123 : decode cX12_tested 123 = .ok (.pop, 1) := by decide +kernel
theorem dX12_tested_124 : decode cX12_tested 124 = .ok (.aload_n 0, 1) := by decide +kernel
theorem dX12_tested_125 : decode cX12_tested 125 = .ok (.iconst 0, 1) := by decide +kernel
theorem dX12_tested_126 : decode cX12_tested 126 = .ok (.aload_n 0, 1) := by decide +kernel
theorem dX12_tested_127 : decode cX12_tested 127 = .ok (.getfield 93, 3) := by decide +kernel
theorem dX12_tested_130 : decode cX12_tested 130 = .ok (.invokevirtual 114, 3) := by decide +kernel
theorem dX12_tested_133 : decode cX12_tested 133 = .ok (.ireturn, 1) := by decide +kernel
theorem dX12_tested_134 : decode cX12_tested 134 = .ok (.aload_n 0, 1) := by decide +kernel
theorem dX12_tested_135 : decode cX12_tested 135 = .ok (.iconst 1, 1) := by decide +kernel
theorem dX12_tested_136 : decode cX12_tested 136 = .ok (.invokevirtual 195, 3) := by decide +kernel
theorem dX12_tested_139 : decode cX12_tested 139 = .ok (.iconst 1, 1) := by decide +kernel
theorem dX12_tested_140 : decode cX12_tested 140 = .ok (.ireturn, 1) := by decide +kernel
set_option maxHeartbeats 4000000 in
set_option maxRecDepth 100000 in
theorem t_X12_tested (l : Launch) (dC : Nat → ClassId) (dI : Nat → Nat → Nat) (tys : List (ClassId × FieldType)) (κ : tK) (B : Nat) (ws : va_W) (hT : Ty κ tys B ws) (a0 : Nat) (k_a0 : κ a0 = some 12) (f0 : Int32) (l_f0 : 0 ≤ f0.toInt) (h_f0 : f0.toInt ≤ 60) (f_a0_X12_12 : fld ws a0 12 12 (.int f0)) (f1 : Int32) (l_f1 : 0 ≤ f1.toInt) (h_f1 : f1.toInt ≤ 5) (f_a0_X12_11 : fld ws a0 12 11 (.int f1)) {pb pe b φ nc : Int} (hPS : PS κ ws a0 f1.toInt.toNat pb pe b 0 φ nc) (hφ : φ ≤ 6 * f0.toInt) (sz : Nat) : Met l yX12_tested (ws_u yX12_tested cX12_tested 3 (some .boolean)) ({ frames := 8, cells := 0, slots := 0, locals := 176 }) (va_Pc [.ref a0] (cPre (dC, dI) tys ws sz)) (va_Qi (fun (r : Int32) (w : va_W) => 0 ≤ r.toInt ∧ r.toInt ≤ 1 ∧ Ty κ tys B w ∧ Sm [(12, 8), (12, 9), (12, 10), (12, 12), (12, 13), (12, 16)] [55, 56, 60] κ ws w ∧ (∃ (xm : Int32), 0 ≤ xm.toInt ∧ xm.toInt ≤ 60 ∧ fld w a0 12 12 (.int xm) ∧ Alt r (RT κ w a0) (PS κ w a0 f1.toInt.toNat pb pe b 1 (6 * xm.toInt) nc))) (fun w t => cPost (dC, dI) tys w (va_A ws sz) t) (va_A ws sz)) 0 0 (va_A ws sz) := by
  refine Met.ofW (cc := cX12_tested) (maxL := 3) (ret := (some .boolean)) (by decide) rfl ?_
  intro p e s m args below meth c s₁ B0 hml hv
  obtain ⟨rfl, hsz, hP, hK, hD0, hE⟩ := hv
  have hx := B0.exec
  have hb := B0.bytes
  have hr := B0.returns
  have hts0 := atoms_spec (ws := ws_u yX12_tested cX12_tested 3 (some .boolean)) B0.pre
  have hts : ∀ w ∈ gT, w.before _ s = true := fun w h => hts0 w (List.mem_cons_of_mem _ h)
  have hown : s.vm.findClass RX12 = some m.cls := findClass_of_methodNamed B0.named
  have hlocks := B0.notSynchronized
  subst hsz
  have hD := hD0.self (sz := s.heap.size)
  generalize hAe : va_A ws s.heap.size = A at hD ⊢
  have hA : ∀ q : Nat, s.heap.size ≤ q → A q := fun q h => by rw [← hAe]; exact Or.inr h
  have hw : tW (dC, dI) tys κ B A s ws s.heap [] := ⟨hK, hP, hD, va_S.rf, hT⟩
  have hM : Sm [(12, 8), (12, 9), (12, 10), (12, 12), (12, 13), (12, 16)] [55, 56, 60] κ ws ws := Sm.rf
  clear hP hK hD hD0 hts0
  have hl := lv_entry ([.ref a0]) (n := 3) (Nat.le_of_ble_eq_true rfl)
  rw [lg_entry_eq]
  generalize (lg_sl ([.ref a0]) ++ List.replicate (3 - (lg_sl ([.ref a0])).length) Slot.unset).toArray = ls at hl ⊢
  have hl : lv_has ls 3 [(0, .ref a0)] := hl
  refine t_start (fun QQ hQ => ?_)
  refine lv_aload_n hx hb dX12_tested_0 rfl (lv_at hl 0 rfl) ?_
  refine lv_iconst (v := 0) hx hb dX12_tested_1 (by decide) ?_
  refine t_put (ci := 12) (C := RX12) (T := TX12) (N := 38) (v := .int 0) hx hb hts iX12 tyX12 tyX12_ok nmX12 hown hw k_a0 rfl rfl rfl 16 (by decide) (hts _ tw_1141) (fun _ h9 => h9) rfl (tyX12_ok 16 (by decide)) rfl rfl (okV.int rfl (by decide) (by decide)) dX12_tested_2 (fun w_1 H locs hw u => ?_)
  have hM := hM.up1 u (by decide)
  have f_a0_X12_12 := u.1 _ _ _ _ f_a0_X12_12 (Or.inr (Or.inr (by decide)))
  have f_a0_X12_11 := u.1 _ _ _ _ f_a0_X12_11 (Or.inr (Or.inr (by decide)))
  have f_a0_X12_16 := u.2.2
  have hPS := hPS.sm (Sm.of1 u) (by decide) (by decide)
  refine lv_aload_n hx hb dX12_tested_5 rfl (lv_at hl 0 rfl) ?_
  refine lv_iconst (v := 0) hx hb dX12_tested_6 (by decide) ?_
  refine t_put (ci := 12) (C := RX12) (T := TX12) (N := 38) (v := .int 0) hx hb hts iX12 tyX12 tyX12_ok nmX12 hown hw k_a0 rfl rfl rfl 13 (by decide) (hts _ tw_1138) (fun _ h9 => h9) rfl (tyX12_ok 13 (by decide)) rfl rfl (okV.int rfl (by decide) (by decide)) dX12_tested_7 (fun w_2 H locs hw u => ?_)
  have hM := hM.up1 u (by decide)
  have f_a0_X12_12 := u.1 _ _ _ _ f_a0_X12_12 (Or.inr (Or.inr (by decide)))
  have f_a0_X12_11 := u.1 _ _ _ _ f_a0_X12_11 (Or.inr (Or.inr (by decide)))
  have f_a0_X12_16 := u.1 _ _ _ _ f_a0_X12_16 (Or.inr (Or.inr (by decide)))
  have f_a0_X12_13 := u.2.2
  have hPS := hPS.sm (Sm.of1 u) (by decide) (by decide)
  obtain ⟨o9, hOS⟩ := OS.init hw.2.2.2.2 k_a0
  have hRT := hPS.rt
  refine lv_iconst (v := 1) hx hb dX12_tested_10 (by decide) ?_
  refine lv_istore_n (lv' := [(1, .int 1), (0, .ref a0)]) hx hb dX12_tested_11 rfl hl (by decide) rfl (fun ls hl => ?_)
  have J12 : ∀ (n : Nat) (H : Heap) (locs : List Loc) (ls : Array Slot), (∃ (w12 : va_W) (p12_l1 : Int32) (p12_m_a0_X12_12 : Int32) (p12_m_a0_X12_13 : Int32) (p12_m_a0_X12_16 : Int32), tW (dC, dI) tys κ B A s w12 H locs ∧ Sm [(12, 8), (12, 9), (12, 10), (12, 12), (12, 13), (12, 16)] [55, 56, 60] κ ws w12 ∧ 0 ≤ p12_l1.toInt ∧ p12_l1.toInt ≤ 1 ∧ 0 ≤ p12_m_a0_X12_12.toInt ∧ p12_m_a0_X12_12.toInt ≤ 60 ∧ 0 ≤ p12_m_a0_X12_13.toInt ∧ p12_m_a0_X12_13.toInt ≤ 10 ∧ 0 ≤ p12_m_a0_X12_16.toInt ∧ p12_m_a0_X12_16.toInt ≤ 400 ∧ fld w12 a0 12 11 (.int f1) ∧ fld w12 a0 12 12 (.int p12_m_a0_X12_12) ∧ fld w12 a0 12 13 (.int p12_m_a0_X12_13) ∧ fld w12 a0 12 16 (.int p12_m_a0_X12_16) ∧ p12_m_a0_X12_16.toInt - p12_m_a0_X12_13.toInt + 1 - p12_l1.toInt ≤ p12_m_a0_X12_12.toInt ∧ (∃ o9 : Nat → Int32, OS κ w12 a0 o9 p12_m_a0_X12_16.toInt p12_m_a0_X12_13.toInt) ∧ PS κ w12 a0 f1.toInt.toNat pb pe b (p12_m_a0_X12_16.toInt - p12_m_a0_X12_13.toInt + 1 - p12_l1.toInt) (6 * p12_m_a0_X12_12.toInt - p12_m_a0_X12_16.toInt) nc ∧ lv_has ls 3 [(0, .ref a0), (1, .int p12_l1)] ∧ (60 - p12_m_a0_X12_12.toInt).toNat = n) → W p l e (headSpec (ws_u yX12_tested cX12_tested 3 (some .boolean)) ({ frames := 8, cells := 0, slots := 0, locals := 176 })).room s m ([.ref a0] : List Value).toArray below meth c H locs 0 0 QQ (F0 m 12 ls []) := by
    refine loopT _ ?_
    intro n_12 H locs ls hI ih_12
    obtain ⟨w12, p12_l1, p12_m_a0_X12_12, p12_m_a0_X12_13, p12_m_a0_X12_16, hw, hM, l_p12_l1, h_p12_l1, l_p12_m_a0_X12_12, h_p12_m_a0_X12_12, l_p12_m_a0_X12_13, h_p12_m_a0_X12_13, l_p12_m_a0_X12_16, h_p12_m_a0_X12_16, f_a0_X12_11, f_a0_X12_12, f_a0_X12_13, f_a0_X12_16, li_12_0, hOSx, hPS, hl, hn_12⟩ := hI
    obtain ⟨o9, hOS⟩ := hOSx
    have hon := hOS.nn
    have hpn := hPS.nn
    have hRT := hPS.rt
    refine lv_iload_n hx hb dX12_tested_12 rfl (lv_at hl 1 rfl) ?_
    refine lv_if_eq (tgt := 112) hx hb dX12_tested_13 (by decide) (fun c_13 => ?_) (fun c_13 => ?_)
    · simp only [fa_lt, fa_le, fa_eq, li_0] at c_13
      refine lv_aload_n hx hb dX12_tested_112 rfl (lv_at hl 0 rfl) ?_
      refine t_calli (va_runV (As := []) (rest := []) ⟨hx, hb, hml, hown, hts⟩ (t_X12_isInside l dC dI tys κ B w12 hw.2.2.2.2 a0 k_a0 p12_m_a0_X12_16 (by omega) (by omega) f_a0_X12_16 hOS H.size) (cwV 0 hts (gUV tw_1414 tw_1416 ts_5_2 tw_13 tw_1417) rfl rfl rfl (by decide +kernel) ⟨(Nat.le_of_ble_eq_true rfl), (Nat.le_of_ble_eq_true rfl)⟩) ⟨cPre.blind, t_recv hw (ci := 12) k_a0 rfl rfl, cPre.use hw.2.1 hw.1 hw.2.2.1 hE⟩ rfl rfl hl.1 rfl (lv_room (Nat.le_of_ble_eq_true rfl)) dX12_tested_113 ⟨(Nat.le_of_ble_eq_true rfl), (Nat.le_of_ble_eq_true rfl)⟩) hw hA (fun _ _ h => h.2.2.1) (fun v113 w_3 H locs hp hw => ?_)
      obtain ⟨l_v113, h_v113, _, hm, g_v113⟩ := hp
      have hM := hM.trans hm (by decide) (by decide)
      have f_a0_X12_11 := hm.1 _ _ _ _ f_a0_X12_11 (by decide)
      have f_a0_X12_12 := hm.1 _ _ _ _ f_a0_X12_12 (by decide)
      have f_a0_X12_13 := hm.1 _ _ _ _ f_a0_X12_13 (by decide)
      have f_a0_X12_16 := hm.1 _ _ _ _ f_a0_X12_16 (by decide)
      have hPS := hPS.sm hm (by decide) (by decide)
      have hRT := hRT.sm hm (by decide) (by decide)
      have hOS := hOS.sm hm (by decide) (by decide)
      refine lv_if_eq (tgt := 134) hx hb dX12_tested_116 (by decide) (fun c_116 => ?_) (fun c_116 => ?_)
      · simp only [fa_lt, fa_le, fa_eq, li_0] at c_116
        have hno := g_v113.1 c_116
        refine lv_aload_n hx hb dX12_tested_134 rfl (lv_at hl 0 rfl) ?_
        refine lv_iconst (v := 1) hx hb dX12_tested_135 (by decide) ?_
        refine t_callv (va_runV (As := [.int 1]) (rest := []) ⟨hx, hb, hml, hown, hts⟩ (t_X12_settles l dC dI tys κ B w_3 hw.2.2.2.2 a0 k_a0 1 (by decide) (by decide) p12_m_a0_X12_16 (by omega) (by omega) f_a0_X12_16 p12_m_a0_X12_13 (by omega) (by omega) f_a0_X12_13 f1 (by omega) (by omega) f_a0_X12_11 hOS hPS (by omega) (by omega) H.size) (cwV 1 hts (gUV tw_1407 tw_1409 ts_5_1 tw_13 tw_1410) rfl rfl rfl (by decide +kernel) ⟨(Nat.le_of_ble_eq_true rfl), (Nat.le_of_ble_eq_true rfl)⟩) ⟨cPre.blind, t_recv hw (ci := 12) k_a0 rfl rfl, cPre.use hw.2.1 hw.1 hw.2.2.1 hE⟩ rfl rfl hl.1 rfl (lv_room (Nat.le_of_ble_eq_true rfl)) dX12_tested_136 ⟨(Nat.le_of_ble_eq_true rfl), (Nat.le_of_ble_eq_true rfl)⟩) hw hA (fun _ h => h.1) (fun w_4 H locs hp hw => ?_)
        obtain ⟨_, hm, ⟨v136o, v136d, l_v136o, h_v136o, l_v136d, h_v136d, f_a0_X12_16, f_a0_X12_13, y_v136, ⟨hOS, hPS, hIn_v136, hTp_v136⟩⟩⟩ := hp
        have zc_1 := li_1
        have hM := hM.trans hm (by decide) (by decide)
        have f_a0_X12_11 := hm.1 _ _ _ _ f_a0_X12_11 (by decide)
        have f_a0_X12_12 := hm.1 _ _ _ _ f_a0_X12_12 (by decide)
        have hRT := hPS.rt
        have hz136 : v136o.toInt = 0 := by
          by_cases hz : v136o.toInt = 0
          · exact hz
          · rcases hTp_v136 with z | z | z
            · exact z
            · exact absurd li_1 z
            · exact absurd z (hno _ (by omega))
        have hd136 := hOS.zer hz136
        refine lv_iconst (v := 1) hx hb dX12_tested_139 (by decide) ?_
        rw [hQ]
        refine W.widen (k := 0) (n := 0) (Nat.le_refl _) (Nat.le_refl _) ?_
        exact W.zret (v := 1) hx hb hr rfl (fun t ht hW => ⟨⟨1, w_4, rfl, ⟨(by decide), (by decide), hw.2.2.2.2, hM, ⟨p12_m_a0_X12_12, (by omega), (by omega), f_a0_X12_12, ⟨fun hz => absurd hz (by decide), fun _ => hPS.to (by omega) (by omega)⟩⟩⟩, by rw [ht]; exact hw.2.1, va_K.moved hW.alike hw.1, hw.2.2.1⟩, hw.2.2.2.1.F ht⟩) hw.2.2.2.1.2.2 dX12_tested_140
      · simp only [fa_lt, fa_le, fa_eq, li_0] at c_116
        obtain ⟨k9, hk9, hk91⟩ := g_v113.2 c_116
        refine lv_aload_n hx hb dX12_tested_119 rfl (lv_at hl 0 rfl) ?_
        obtain ⟨u_v120q0, q_v120q0, f_a0_X12_8⟩ := t_peek (k := 8) hw.2.2.2.2 k_a0 rfl (by decide)
        obtain ⟨v120q0, rfl, l_v120q0, h_v120q0⟩ := q_v120q0.geti (lo := 0) (hi := 401) rfl
        obtain ⟨u_v120q1, q_v120q1, f_a0_X12_1⟩ := t_peek (k := 1) hw.2.2.2.2 k_a0 rfl (by decide)
        obtain ⟨v120q1, rfl, l_v120q1, h_v120q1⟩ := q_v120q1.geti (lo := 0) (hi := 400) rfl
        refine t_calli (va_runV (As := []) (rest := []) ⟨hx, hb, hml, hown, hts⟩ (t_X12_see l dC dI tys κ B w_3 hw.2.2.2.2 a0 k_a0 v120q0 (by omega) (by omega) f_a0_X12_8 v120q1 (by omega) (by omega) f_a0_X12_1 H.size) (cwV 0 hts (gUV tw_1264 tw_1266 ts_3_3 tw_13 tw_1267) rfl rfl rfl (by decide +kernel) ⟨(Nat.le_of_ble_eq_true rfl), (Nat.le_of_ble_eq_true rfl)⟩) ⟨cPre.blind, t_recv hw (ci := 12) k_a0 rfl rfl, cPre.use hw.2.1 hw.1 hw.2.2.1 hE⟩ rfl rfl hl.1 rfl (lv_room (Nat.le_of_ble_eq_true rfl)) dX12_tested_120 ⟨(Nat.le_of_ble_eq_true rfl), (Nat.le_of_ble_eq_true rfl)⟩) hw hA (fun _ _ h => h.2.2.1) (fun v120 w_5 H locs hp hw => ?_)
        obtain ⟨l_v120, h_v120, _, hm, ⟨v120n, l_v120n, h_v120n, f_a0_X12_8, y_v120⟩⟩ := hp
        have hM := hM.trans hm (by decide) (by decide)
        have f_a0_X12_11 := hm.1 _ _ _ _ f_a0_X12_11 (by decide)
        have f_a0_X12_12 := hm.1 _ _ _ _ f_a0_X12_12 (by decide)
        have f_a0_X12_13 := hm.1 _ _ _ _ f_a0_X12_13 (by decide)
        have f_a0_X12_16 := hm.1 _ _ _ _ f_a0_X12_16 (by decide)
        have f_a0_X12_1 := hm.1 _ _ _ _ f_a0_X12_1 (by decide)
        have hPS := hPS.sm hm (by decide) (by decide)
        have hRT := hRT.sm hm (by decide) (by decide)
        have hOS := hOS.sm hm (by decide) (by decide)
        refine lv_pop hx hb dX12_tested_123 rfl ?_
        refine lv_aload_n hx hb dX12_tested_124 rfl (lv_at hl 0 rfl) ?_
        refine lv_iconst (v := 0) hx hb dX12_tested_125 (by decide) ?_
        refine lv_aload_n hx hb dX12_tested_126 rfl (lv_at hl 0 rfl) ?_
        refine t_getk (ci := 12) (C := RX12) (T := TX12) (N := 38) hx hb hts iX12 hown hw rfl 8 (by decide) (hts _ tw_1133) (fun _ h9 => h9) dX12_tested_127 f_a0_X12_8 ?_
        refine t_calli (va_runV (As := [.int 0, .int v120n]) (rest := []) ⟨hx, hb, hml, hown, hts⟩ (t_X12_fails l dC dI tys κ B w_5 hw.2.2.2.2 a0 k_a0 0 (by decide) (by decide) v120n (by omega) (by omega) H.size) (cwV 2 hts (gUV tw_1288 tw_1290 ts_3_7 tw_13 tw_1291) rfl rfl rfl (by decide +kernel) ⟨(Nat.le_of_ble_eq_true rfl), (Nat.le_of_ble_eq_true rfl)⟩) ⟨cPre.blind, t_recv hw (ci := 12) k_a0 rfl rfl, cPre.use hw.2.1 hw.1 hw.2.2.1 hE⟩ rfl rfl hl.1 rfl (lv_room (Nat.le_of_ble_eq_true rfl)) dX12_tested_130 ⟨(Nat.le_of_ble_eq_true rfl), (Nat.le_of_ble_eq_true rfl)⟩) hw hA (fun _ _ h => h.2.2.1) (fun v130 w_6 H locs hp hw => ?_)
        obtain ⟨l_v130, h_v130, _, hm⟩ := hp
        have hM := hM.trans hm (by decide) (by decide)
        have f_a0_X12_11 := hm.1 _ _ _ _ f_a0_X12_11 (by decide)
        have f_a0_X12_12 := hm.1 _ _ _ _ f_a0_X12_12 (by decide)
        have f_a0_X12_13 := hm.1 _ _ _ _ f_a0_X12_13 (by decide)
        have f_a0_X12_16 := hm.1 _ _ _ _ f_a0_X12_16 (by decide)
        have f_a0_X12_1 := hm.1 _ _ _ _ f_a0_X12_1 (by decide)
        have f_a0_X12_8 := hm.1 _ _ _ _ f_a0_X12_8 (by decide)
        have hPS := hPS.sm hm (by decide) (by decide)
        have hRT := hRT.sm hm (by decide) (by decide)
        have hOS := hOS.sm hm (by decide) (by decide)
        rw [hQ]
        refine W.widen (k := 0) (n := 0) (Nat.le_refl _) (Nat.le_refl _) ?_
        exact W.zret (v := v130) hx hb hr (nb_i (by omega) (by omega)) (fun t ht hW => ⟨⟨v130, w_6, rfl, ⟨(by omega), (by omega), hw.2.2.2.2, hM, ⟨p12_m_a0_X12_12, (by omega), (by omega), f_a0_X12_12, ⟨fun _ => hRT, fun hz => absurd (by omega) hz⟩⟩⟩, by rw [ht]; exact hw.2.1, va_K.moved hW.alike hw.1, hw.2.2.1⟩, hw.2.2.2.1.F ht⟩) hw.2.2.2.1.2.2 dX12_tested_133
    · simp only [fa_lt, fa_le, fa_eq, li_0] at c_13
      refine lv_aload_n hx hb dX12_tested_16 rfl (lv_at hl 0 rfl) ?_
      refine t_calli (va_runV (As := []) (rest := []) ⟨hx, hb, hml, hown, hts⟩ (t_X12_fact l dC dI tys κ B w12 hw.2.2.2.2 a0 k_a0 p12_m_a0_X12_12 (by omega) (by omega) f_a0_X12_12 f1 (by omega) (by omega) f_a0_X12_11 p12_m_a0_X12_16 (by omega) (by omega) f_a0_X12_16 p12_m_a0_X12_13 (by omega) (by omega) f_a0_X12_13 hOS hPS (by omega) (by omega) (by omega) (by omega) H.size) (cwV 0 hts (gUV tw_1390 tw_1392 ts_4_13 tw_13 tw_1393) rfl rfl rfl (by decide +kernel) ⟨(Nat.le_of_ble_eq_true rfl), (Nat.le_of_ble_eq_true rfl)⟩) ⟨cPre.blind, t_recv hw (ci := 12) k_a0 rfl rfl, cPre.use hw.2.1 hw.1 hw.2.2.1 hE⟩ rfl rfl hl.1 rfl (lv_room (Nat.le_of_ble_eq_true rfl)) dX12_tested_17 ⟨(Nat.le_of_ble_eq_true rfl), (Nat.le_of_ble_eq_true rfl)⟩) hw hA (fun _ _ h => h.2.2.1) (fun v17 w_7 H locs hp hw => ?_)
      obtain ⟨l_v17, h_v17, _, hm, ⟨v17m, v17o, v17d, l_v17m, h_v17m, l_v17o, h_v17o, l_v17d, h_v17d, f_a0_X12_12, f_a0_X12_16, f_a0_X12_13, y_v17, g_v17⟩⟩ := hp
      have hM := hM.trans hm (by decide) (by decide)
      have f_a0_X12_11 := hm.1 _ _ _ _ f_a0_X12_11 (by decide)
      refine lv_if_ne (tgt := 25) hx hb dX12_tested_20 (by decide) (fun c_20 => ?_) (fun c_20 => ?_)
      · simp only [fa_lt, fa_le, fa_eq, li_0] at c_20
        obtain ⟨hPS, o9, hOS⟩ := g_v17.2 c_20
        have hRT := hPS.rt
        refine lv_aload_n hx hb dX12_tested_25 rfl (lv_at hl 0 rfl) ?_
        obtain ⟨u_v26q3, q_v26q3, f_a0_X12_8⟩ := t_peek (k := 8) hw.2.2.2.2 k_a0 rfl (by decide)
        obtain ⟨v26q3, rfl, l_v26q3, h_v26q3⟩ := q_v26q3.geti (lo := 0) (hi := 401) rfl
        refine t_callv (va_runV (As := []) (rest := []) ⟨hx, hb, hml, hown, hts⟩ (t_X12_closes l dC dI tys κ B w_7 hw.2.2.2.2 a0 k_a0 v17o (by omega) (by omega) f_a0_X12_16 v17d (by omega) (by omega) f_a0_X12_13 f1 (by omega) (by omega) f_a0_X12_11 v26q3 (by omega) (by omega) f_a0_X12_8 hOS hPS (by omega) (by omega) H.size) (cwV 0 hts (gUV tw_1403 tw_1405 ts_5_0 tw_13 tw_1406) rfl rfl rfl (by decide +kernel) ⟨(Nat.le_of_ble_eq_true rfl), (Nat.le_of_ble_eq_true rfl)⟩) ⟨cPre.blind, t_recv hw (ci := 12) k_a0 rfl rfl, cPre.use hw.2.1 hw.1 hw.2.2.1 hE⟩ rfl rfl hl.1 rfl (lv_room (Nat.le_of_ble_eq_true rfl)) dX12_tested_26 ⟨(Nat.le_of_ble_eq_true rfl), (Nat.le_of_ble_eq_true rfl)⟩) hw hA (fun _ h => h.1) (fun w_8 H locs hp hw => ?_)
        obtain ⟨_, hm, ⟨v26o, v26d, l_v26o, h_v26o, l_v26d, h_v26d, f_a0_X12_16, f_a0_X12_13, y_v26, ⟨hOS, hPS⟩⟩⟩ := hp
        have hM := hM.trans hm (by decide) (by decide)
        have f_a0_X12_11 := hm.1 _ _ _ _ f_a0_X12_11 (by decide)
        have f_a0_X12_12 := hm.1 _ _ _ _ f_a0_X12_12 (by decide)
        have hRT := hPS.rt
        refine lv_aload_n hx hb dX12_tested_29 rfl (lv_at hl 0 rfl) ?_
        refine lv_ldc2 (v := 6385252) hx hb hown (hts _ tw_1418) dX12_tested_30 ?_
        refine lv_topl (fun v30 e_v30 => ?_)
        have t_v30 : v30.toInt = 6385252 := by rw [e_v30]; decide
        obtain ⟨u_v33q0, q_v33q0, f_a0_X12_8⟩ := t_peek (k := 8) hw.2.2.2.2 k_a0 rfl (by decide)
        obtain ⟨v33q0, rfl, l_v33q0, h_v33q0⟩ := q_v33q0.geti (lo := 0) (hi := 401) rfl
        obtain ⟨u_v33q1, q_v33q1, f_a0_X12_1⟩ := t_peek (k := 1) hw.2.2.2.2 k_a0 rfl (by decide)
        obtain ⟨v33q1, rfl, l_v33q1, h_v33q1⟩ := q_v33q1.geti (lo := 0) (hi := 400) rfl
        refine t_calli (va_runV (As := [.long v30]) (rest := []) ⟨hx, hb, hml, hown, hts⟩ (t_X12_isWord l dC dI tys κ B w_8 hw.2.2.2.2 a0 k_a0 v30 v33q0 (by omega) (by omega) f_a0_X12_8 v33q1 (by omega) (by omega) f_a0_X12_1 H.size) (cwV 1 hts (gUV tw_1273 tw_1275 ts_3_5 tw_13 tw_1276) rfl rfl rfl (by decide +kernel) ⟨(Nat.le_of_ble_eq_true rfl), (Nat.le_of_ble_eq_true rfl)⟩) ⟨cPre.blind, t_recv hw (ci := 12) k_a0 rfl rfl, cPre.use hw.2.1 hw.1 hw.2.2.1 hE⟩ rfl rfl hl.1 rfl (lv_room (Nat.le_of_ble_eq_true rfl)) dX12_tested_33 ⟨(Nat.le_of_ble_eq_true rfl), (Nat.le_of_ble_eq_true rfl)⟩) hw hA (fun _ _ h => h.2.2.1) (fun v33 w_9 H locs hp hw => ?_)
        obtain ⟨l_v33, h_v33, _, hm, ⟨v33n, l_v33n, h_v33n, f_a0_X12_8, y_v33⟩⟩ := hp
        have hM := hM.trans hm (by decide) (by decide)
        have f_a0_X12_11 := hm.1 _ _ _ _ f_a0_X12_11 (by decide)
        have f_a0_X12_12 := hm.1 _ _ _ _ f_a0_X12_12 (by decide)
        have f_a0_X12_16 := hm.1 _ _ _ _ f_a0_X12_16 (by decide)
        have f_a0_X12_13 := hm.1 _ _ _ _ f_a0_X12_13 (by decide)
        have f_a0_X12_1 := hm.1 _ _ _ _ f_a0_X12_1 (by decide)
        have hPS := hPS.sm hm (by decide) (by decide)
        have hRT := hRT.sm hm (by decide) (by decide)
        have hOS := hOS.sm hm (by decide) (by decide)
        refine lv_if_ne (tgt := 49) hx hb dX12_tested_36 (by decide) (fun c_36 => ?_) (fun c_36 => ?_)
        · simp only [fa_lt, fa_le, fa_eq, li_0] at c_36
          refine lv_iconst (v := 1) hx hb dX12_tested_49 (by decide) ?_
          refine lv_goto (tgt := 54) hx hb dX12_tested_50 (by decide) ?_
          refine lv_istore_n (lv' := [(1, .int 1), (0, .ref a0)]) hx hb dX12_tested_54 rfl hl (by decide) rfl (fun ls hl => ?_)
          refine lv_iload_n hx hb dX12_tested_55 rfl (lv_at hl 0 rfl) ?_
          refine lv_if_eq (tgt := 12) hx hb dX12_tested_56 (by decide) (fun c_56 => absurd c_56 (by decide)) (fun _ => ?_)
          refine lv_aload_n hx hb dX12_tested_59 rfl (lv_at hl 1 rfl) ?_
          refine lv_ldc2 (v := 6385252) hx hb hown (hts _ tw_1418) dX12_tested_60 ?_
          refine lv_topl (fun v60 e_v60 => ?_)
          have t_v60 : v60.toInt = 6385252 := by rw [e_v60]; decide
          refine t_calli (va_runV (As := [.long v60]) (rest := []) ⟨hx, hb, hml, hown, hts⟩ (t_X12_isWord l dC dI tys κ B w_9 hw.2.2.2.2 a0 k_a0 v60 v33n (by omega) (by omega) f_a0_X12_8 v33q1 (by omega) (by omega) f_a0_X12_1 H.size) (cwV 1 hts (gUV tw_1273 tw_1275 ts_3_5 tw_13 tw_1276) rfl rfl rfl (by decide +kernel) ⟨(Nat.le_of_ble_eq_true rfl), (Nat.le_of_ble_eq_true rfl)⟩) ⟨cPre.blind, t_recv hw (ci := 12) k_a0 rfl rfl, cPre.use hw.2.1 hw.1 hw.2.2.1 hE⟩ rfl rfl hl.1 rfl (lv_room (Nat.le_of_ble_eq_true rfl)) dX12_tested_63 ⟨(Nat.le_of_ble_eq_true rfl), (Nat.le_of_ble_eq_true rfl)⟩) hw hA (fun _ _ h => h.2.2.1) (fun v63 w_10 H locs hp hw => ?_)
          obtain ⟨l_v63, h_v63, _, hm, ⟨v63n, l_v63n, h_v63n, f_a0_X12_8, y_v63⟩⟩ := hp
          have hM := hM.trans hm (by decide) (by decide)
          have f_a0_X12_11 := hm.1 _ _ _ _ f_a0_X12_11 (by decide)
          have f_a0_X12_12 := hm.1 _ _ _ _ f_a0_X12_12 (by decide)
          have f_a0_X12_16 := hm.1 _ _ _ _ f_a0_X12_16 (by decide)
          have f_a0_X12_13 := hm.1 _ _ _ _ f_a0_X12_13 (by decide)
          have f_a0_X12_1 := hm.1 _ _ _ _ f_a0_X12_1 (by decide)
          have hPS := hPS.sm hm (by decide) (by decide)
          have hRT := hRT.sm hm (by decide) (by decide)
          have hOS := hOS.sm hm (by decide) (by decide)
          refine lv_if_eq (tgt := 74) hx hb dX12_tested_66 (by decide) (fun c_66 => ?_) (fun c_66 => ?_)
          · simp only [fa_lt, fa_le, fa_eq, li_0] at c_66
            refine lv_bipush (v := 13) hx hb dX12_tested_74 (by decide) ?_
            refine lv_istore_n (lv' := [(2, .int 13), (1, .int 1), (0, .ref a0)]) hx hb dX12_tested_76 rfl hl (by decide) rfl (fun ls hl => ?_)
            refine lv_aload_n hx hb dX12_tested_77 rfl (lv_at hl 2 rfl) ?_
            refine t_callv (va_runV (As := []) (rest := []) ⟨hx, hb, hml, hown, hts⟩ (t_X12_passWord l dC dI tys κ B w_10 hw.2.2.2.2 a0 k_a0 v63n (by omega) (by omega) f_a0_X12_8 v33q1 (by omega) (by omega) f_a0_X12_1 H.size) (cwV 0 hts (gUV tw_1300 tw_1302 ts_3_10 tw_13 tw_1303) rfl rfl rfl (by decide +kernel) ⟨(Nat.le_of_ble_eq_true rfl), (Nat.le_of_ble_eq_true rfl)⟩) ⟨cPre.blind, t_recv hw (ci := 12) k_a0 rfl rfl, cPre.use hw.2.1 hw.1 hw.2.2.1 hE⟩ rfl rfl hl.1 rfl (lv_room (Nat.le_of_ble_eq_true rfl)) dX12_tested_78 ⟨(Nat.le_of_ble_eq_true rfl), (Nat.le_of_ble_eq_true rfl)⟩) hw hA (fun _ h => h.1) (fun w_11 H locs hp hw => ?_)
            obtain ⟨_, hm, ⟨v78n, l_v78n, h_v78n, f_a0_X12_8, y_v78⟩⟩ := hp
            have hM := hM.trans hm (by decide) (by decide)
            have f_a0_X12_11 := hm.1 _ _ _ _ f_a0_X12_11 (by decide)
            have f_a0_X12_12 := hm.1 _ _ _ _ f_a0_X12_12 (by decide)
            have f_a0_X12_16 := hm.1 _ _ _ _ f_a0_X12_16 (by decide)
            have f_a0_X12_13 := hm.1 _ _ _ _ f_a0_X12_13 (by decide)
            have f_a0_X12_1 := hm.1 _ _ _ _ f_a0_X12_1 (by decide)
            have hPS := hPS.sm hm (by decide) (by decide)
            have hRT := hRT.sm hm (by decide) (by decide)
            have hOS := hOS.sm hm (by decide) (by decide)
            refine lv_aload_n hx hb dX12_tested_81 rfl (lv_at hl 2 rfl) ?_
            refine lv_iload_n hx hb dX12_tested_82 rfl (lv_at hl 0 rfl) ?_
            refine t_calli (va_runS (As := [.int 13]) (rest := [.ref a0]) ⟨hx, hb, hml, hown, hts⟩ (t_X12_strength l dC dI tys κ B w_11 hw.2.2.2.2 13 H.size) (va_cwS 1 hts (gUS tw_1411 tw_1412 tw_13 tw_1413) rfl rfl rfl (by decide +kernel) ⟨(Nat.le_of_ble_eq_true rfl), (Nat.le_of_ble_eq_true rfl)⟩) ⟨cPre.blind, cPre.use hw.2.1 hw.1 hw.2.2.1 hE⟩ rfl rfl hl.1 rfl (lv_room (Nat.le_of_ble_eq_true rfl)) dX12_tested_83 ⟨(Nat.le_of_ble_eq_true rfl), (Nat.le_of_ble_eq_true rfl)⟩) hw hA (fun _ _ h => h.2.2.1) (fun v83 w_12 H locs hp hw => ?_)
            obtain ⟨l_v83, h_v83, _, hm, x_v83_0⟩ := hp
            have zc_13 := li_13
            have hM := hM.trans hm (by decide) (by decide)
            have f_a0_X12_11 := hm.1 _ _ _ _ f_a0_X12_11 (by decide)
            have f_a0_X12_12 := hm.1 _ _ _ _ f_a0_X12_12 (by decide)
            have f_a0_X12_16 := hm.1 _ _ _ _ f_a0_X12_16 (by decide)
            have f_a0_X12_13 := hm.1 _ _ _ _ f_a0_X12_13 (by decide)
            have f_a0_X12_1 := hm.1 _ _ _ _ f_a0_X12_1 (by decide)
            have f_a0_X12_8 := hm.1 _ _ _ _ f_a0_X12_8 (by decide)
            have hPS := hPS.sm hm (by decide) (by decide)
            have hRT := hRT.sm hm (by decide) (by decide)
            have hOS := hOS.sm hm (by decide) (by decide)
            refine t_callv (va_runV (As := [.int v83]) (rest := []) ⟨hx, hb, hml, hown, hts⟩ (t_X12_settles l dC dI tys κ B w_12 hw.2.2.2.2 a0 k_a0 v83 (by omega) (by omega) v26o (by omega) (by omega) f_a0_X12_16 v26d (by omega) (by omega) f_a0_X12_13 f1 (by omega) (by omega) f_a0_X12_11 hOS hPS (by omega) (by omega) H.size) (cwV 1 hts (gUV tw_1407 tw_1409 ts_5_1 tw_13 tw_1410) rfl rfl rfl (by decide +kernel) ⟨(Nat.le_of_ble_eq_true rfl), (Nat.le_of_ble_eq_true rfl)⟩) ⟨cPre.blind, t_recv hw (ci := 12) k_a0 rfl rfl, cPre.use hw.2.1 hw.1 hw.2.2.1 hE⟩ rfl rfl hl.1 rfl (lv_room (Nat.le_of_ble_eq_true rfl)) dX12_tested_86 ⟨(Nat.le_of_ble_eq_true rfl), (Nat.le_of_ble_eq_true rfl)⟩) hw hA (fun _ h => h.1) (fun w_13 H locs hp hw => ?_)
            obtain ⟨_, hm, ⟨v86o, v86d, l_v86o, h_v86o, l_v86d, h_v86d, f_a0_X12_16, f_a0_X12_13, y_v86, ⟨hOS, hPS, hIn_v86, hTp_v86⟩⟩⟩ := hp
            have hM := hM.trans hm (by decide) (by decide)
            have f_a0_X12_11 := hm.1 _ _ _ _ f_a0_X12_11 (by decide)
            have f_a0_X12_12 := hm.1 _ _ _ _ f_a0_X12_12 (by decide)
            have f_a0_X12_1 := hm.1 _ _ _ _ f_a0_X12_1 (by decide)
            have f_a0_X12_8 := hm.1 _ _ _ _ f_a0_X12_8 (by decide)
            have hRT := hPS.rt
            refine lv_aload_n hx hb dX12_tested_89 rfl (lv_at hl 2 rfl) ?_
            refine t_getr (k1 := 60) (ci := 12) (C := RX12) (T := TX12) (N := 38) hx hb hts iX12 hown hw k_a0 rfl rfl rfl 15 (by decide) (hts _ tw_1140) (fun _ h9 => h9) dX12_tested_90 rfl (fun v90 k_v90 f_a0_X12_15 => ?_)
            refine lv_aload_n hx hb dX12_tested_93 rfl (lv_at hl 2 rfl) ?_
            refine t_getk (ci := 12) (C := RX12) (T := TX12) (N := 38) hx hb hts iX12 hown hw rfl 16 (by decide) (hts _ tw_1141) (fun _ h9 => h9) dX12_tested_94 f_a0_X12_16 ?_
            refine lv_iload_n hx hb dX12_tested_97 rfl (lv_at hl 0 rfl) ?_
            refine t_iast hx hb hw k_v90 rfl rfl (by omega) (show v86o.toInt < 400 by omega) (i32_lo _) (i32_hi _) dX12_tested_98 (fun w_14 H locs hw u => ?_)
            have hM := hM.up3 u k_v90 (by decide)
            have f_a0_X12_11 := u.1 _ _ _ _ f_a0_X12_11
            have f_a0_X12_12 := u.1 _ _ _ _ f_a0_X12_12
            have f_a0_X12_1 := u.1 _ _ _ _ f_a0_X12_1
            have f_a0_X12_8 := u.1 _ _ _ _ f_a0_X12_8
            have f_a0_X12_16 := u.1 _ _ _ _ f_a0_X12_16
            have f_a0_X12_13 := u.1 _ _ _ _ f_a0_X12_13
            have f_a0_X12_15 := u.1 _ _ _ _ f_a0_X12_15
            have hPS := hPS.sm (Sm.of3 u k_v90) (by decide) (by decide)
            have hRT := hRT.sm (Sm.of3 u k_v90) (by decide) (by decide)
            have hOS := hOS.push (op' := v86o.toInt + 1) (dp' := v86d.toInt) hw.2.2.1 f_a0_X12_15 u (by omega) rfl (by have q1 := li_12; have q2 := li_13; omega)
            refine lv_aload_n hx hb dX12_tested_99 rfl (lv_at hl 2 rfl) ?_
            refine lv_dup hx hb dX12_tested_100 rfl ?_
            refine t_getk (ci := 12) (C := RX12) (T := TX12) (N := 38) hx hb hts iX12 hown hw rfl 16 (by decide) (hts _ tw_1141) (fun _ h9 => h9) dX12_tested_101 f_a0_X12_16 ?_
            refine lv_iconst (v := 1) hx hb dX12_tested_104 (by decide) ?_
            refine lv_iadd hx hb dX12_tested_105 ?_
            refine lv_topi (fun v105 e_v105 => ?_)
            have e_v105 : v105.toInt = v86o.toInt + 1 := ad_i e_v105 rfl li_1 (by omega) (by omega)
            refine t_put (ci := 12) (C := RX12) (T := TX12) (N := 38) (v := .int v105) hx hb hts iX12 tyX12 tyX12_ok nmX12 hown hw k_a0 rfl rfl rfl 16 (by decide) (hts _ tw_1141) (fun _ h9 => h9) rfl (tyX12_ok 16 (by decide)) rfl rfl (okV.int rfl (by omega) (by omega)) dX12_tested_106 (fun w_15 H locs hw u => ?_)
            have hM := hM.up1 u (by decide)
            have f_a0_X12_11 := u.1 _ _ _ _ f_a0_X12_11 (Or.inr (Or.inr (by decide)))
            have f_a0_X12_12 := u.1 _ _ _ _ f_a0_X12_12 (Or.inr (Or.inr (by decide)))
            have f_a0_X12_1 := u.1 _ _ _ _ f_a0_X12_1 (Or.inr (Or.inr (by decide)))
            have f_a0_X12_8 := u.1 _ _ _ _ f_a0_X12_8 (Or.inr (Or.inr (by decide)))
            have f_a0_X12_16 := u.2.2
            have f_a0_X12_13 := u.1 _ _ _ _ f_a0_X12_13 (Or.inr (Or.inr (by decide)))
            have f_a0_X12_15 := u.1 _ _ _ _ f_a0_X12_15 (Or.inr (Or.inr (by decide)))
            have hPS := hPS.sm (Sm.of1 u) (by decide) (by decide)
            have hRT := hRT.sm (Sm.of1 u) (by decide) (by decide)
            have hOS := hOS.sm (Sm.of1 u) (by decide) (by decide)
            refine lv_goto (tgt := 12) hx hb dX12_tested_109 (by decide) ?_
            exact ih_12 _ _ _ _ (by have := li_1; omega) ⟨w_15, 1, v17m, v86d, v105, hw, hM, (by decide), (by decide), (by omega), (by omega), (by omega), (by omega), (by omega), (by omega), f_a0_X12_11, f_a0_X12_12, f_a0_X12_13, f_a0_X12_16, (by have := li_1; omega), ⟨_, hOS.to (by have := li_1; omega) (by have := li_1; omega)⟩, (hPS.to (by have := li_1; omega) (by have := li_1; omega)), (lv_sub hl [2, 1] rfl), rfl⟩
          · simp only [fa_lt, fa_le, fa_eq, li_0] at c_66
            refine lv_bipush (v := 12) hx hb dX12_tested_69 (by decide) ?_
            refine lv_goto (tgt := 76) hx hb dX12_tested_71 (by decide) ?_
            refine lv_istore_n (lv' := [(2, .int 12), (1, .int 1), (0, .ref a0)]) hx hb dX12_tested_76 rfl hl (by decide) rfl (fun ls hl => ?_)
            refine lv_aload_n hx hb dX12_tested_77 rfl (lv_at hl 2 rfl) ?_
            refine t_callv (va_runV (As := []) (rest := []) ⟨hx, hb, hml, hown, hts⟩ (t_X12_passWord l dC dI tys κ B w_10 hw.2.2.2.2 a0 k_a0 v63n (by omega) (by omega) f_a0_X12_8 v33q1 (by omega) (by omega) f_a0_X12_1 H.size) (cwV 0 hts (gUV tw_1300 tw_1302 ts_3_10 tw_13 tw_1303) rfl rfl rfl (by decide +kernel) ⟨(Nat.le_of_ble_eq_true rfl), (Nat.le_of_ble_eq_true rfl)⟩) ⟨cPre.blind, t_recv hw (ci := 12) k_a0 rfl rfl, cPre.use hw.2.1 hw.1 hw.2.2.1 hE⟩ rfl rfl hl.1 rfl (lv_room (Nat.le_of_ble_eq_true rfl)) dX12_tested_78 ⟨(Nat.le_of_ble_eq_true rfl), (Nat.le_of_ble_eq_true rfl)⟩) hw hA (fun _ h => h.1) (fun w_16 H locs hp hw => ?_)
            obtain ⟨_, hm, ⟨v78n, l_v78n, h_v78n, f_a0_X12_8, y_v78⟩⟩ := hp
            have hM := hM.trans hm (by decide) (by decide)
            have f_a0_X12_11 := hm.1 _ _ _ _ f_a0_X12_11 (by decide)
            have f_a0_X12_12 := hm.1 _ _ _ _ f_a0_X12_12 (by decide)
            have f_a0_X12_16 := hm.1 _ _ _ _ f_a0_X12_16 (by decide)
            have f_a0_X12_13 := hm.1 _ _ _ _ f_a0_X12_13 (by decide)
            have f_a0_X12_1 := hm.1 _ _ _ _ f_a0_X12_1 (by decide)
            have hPS := hPS.sm hm (by decide) (by decide)
            have hRT := hRT.sm hm (by decide) (by decide)
            have hOS := hOS.sm hm (by decide) (by decide)
            refine lv_aload_n hx hb dX12_tested_81 rfl (lv_at hl 2 rfl) ?_
            refine lv_iload_n hx hb dX12_tested_82 rfl (lv_at hl 0 rfl) ?_
            refine t_calli (va_runS (As := [.int 12]) (rest := [.ref a0]) ⟨hx, hb, hml, hown, hts⟩ (t_X12_strength l dC dI tys κ B w_16 hw.2.2.2.2 12 H.size) (va_cwS 1 hts (gUS tw_1411 tw_1412 tw_13 tw_1413) rfl rfl rfl (by decide +kernel) ⟨(Nat.le_of_ble_eq_true rfl), (Nat.le_of_ble_eq_true rfl)⟩) ⟨cPre.blind, cPre.use hw.2.1 hw.1 hw.2.2.1 hE⟩ rfl rfl hl.1 rfl (lv_room (Nat.le_of_ble_eq_true rfl)) dX12_tested_83 ⟨(Nat.le_of_ble_eq_true rfl), (Nat.le_of_ble_eq_true rfl)⟩) hw hA (fun _ _ h => h.2.2.1) (fun v83 w_17 H locs hp hw => ?_)
            obtain ⟨l_v83, h_v83, _, hm, x_v83_0⟩ := hp
            have zc_12 := li_12
            have hM := hM.trans hm (by decide) (by decide)
            have f_a0_X12_11 := hm.1 _ _ _ _ f_a0_X12_11 (by decide)
            have f_a0_X12_12 := hm.1 _ _ _ _ f_a0_X12_12 (by decide)
            have f_a0_X12_16 := hm.1 _ _ _ _ f_a0_X12_16 (by decide)
            have f_a0_X12_13 := hm.1 _ _ _ _ f_a0_X12_13 (by decide)
            have f_a0_X12_1 := hm.1 _ _ _ _ f_a0_X12_1 (by decide)
            have f_a0_X12_8 := hm.1 _ _ _ _ f_a0_X12_8 (by decide)
            have hPS := hPS.sm hm (by decide) (by decide)
            have hRT := hRT.sm hm (by decide) (by decide)
            have hOS := hOS.sm hm (by decide) (by decide)
            refine t_callv (va_runV (As := [.int v83]) (rest := []) ⟨hx, hb, hml, hown, hts⟩ (t_X12_settles l dC dI tys κ B w_17 hw.2.2.2.2 a0 k_a0 v83 (by omega) (by omega) v26o (by omega) (by omega) f_a0_X12_16 v26d (by omega) (by omega) f_a0_X12_13 f1 (by omega) (by omega) f_a0_X12_11 hOS hPS (by omega) (by omega) H.size) (cwV 1 hts (gUV tw_1407 tw_1409 ts_5_1 tw_13 tw_1410) rfl rfl rfl (by decide +kernel) ⟨(Nat.le_of_ble_eq_true rfl), (Nat.le_of_ble_eq_true rfl)⟩) ⟨cPre.blind, t_recv hw (ci := 12) k_a0 rfl rfl, cPre.use hw.2.1 hw.1 hw.2.2.1 hE⟩ rfl rfl hl.1 rfl (lv_room (Nat.le_of_ble_eq_true rfl)) dX12_tested_86 ⟨(Nat.le_of_ble_eq_true rfl), (Nat.le_of_ble_eq_true rfl)⟩) hw hA (fun _ h => h.1) (fun w_18 H locs hp hw => ?_)
            obtain ⟨_, hm, ⟨v86o, v86d, l_v86o, h_v86o, l_v86d, h_v86d, f_a0_X12_16, f_a0_X12_13, y_v86, ⟨hOS, hPS, hIn_v86, hTp_v86⟩⟩⟩ := hp
            have hM := hM.trans hm (by decide) (by decide)
            have f_a0_X12_11 := hm.1 _ _ _ _ f_a0_X12_11 (by decide)
            have f_a0_X12_12 := hm.1 _ _ _ _ f_a0_X12_12 (by decide)
            have f_a0_X12_1 := hm.1 _ _ _ _ f_a0_X12_1 (by decide)
            have f_a0_X12_8 := hm.1 _ _ _ _ f_a0_X12_8 (by decide)
            have hRT := hPS.rt
            refine lv_aload_n hx hb dX12_tested_89 rfl (lv_at hl 2 rfl) ?_
            refine t_getr (k1 := 60) (ci := 12) (C := RX12) (T := TX12) (N := 38) hx hb hts iX12 hown hw k_a0 rfl rfl rfl 15 (by decide) (hts _ tw_1140) (fun _ h9 => h9) dX12_tested_90 rfl (fun v90 k_v90 f_a0_X12_15 => ?_)
            refine lv_aload_n hx hb dX12_tested_93 rfl (lv_at hl 2 rfl) ?_
            refine t_getk (ci := 12) (C := RX12) (T := TX12) (N := 38) hx hb hts iX12 hown hw rfl 16 (by decide) (hts _ tw_1141) (fun _ h9 => h9) dX12_tested_94 f_a0_X12_16 ?_
            refine lv_iload_n hx hb dX12_tested_97 rfl (lv_at hl 0 rfl) ?_
            refine t_iast hx hb hw k_v90 rfl rfl (by omega) (show v86o.toInt < 400 by omega) (i32_lo _) (i32_hi _) dX12_tested_98 (fun w_19 H locs hw u => ?_)
            have hM := hM.up3 u k_v90 (by decide)
            have f_a0_X12_11 := u.1 _ _ _ _ f_a0_X12_11
            have f_a0_X12_12 := u.1 _ _ _ _ f_a0_X12_12
            have f_a0_X12_1 := u.1 _ _ _ _ f_a0_X12_1
            have f_a0_X12_8 := u.1 _ _ _ _ f_a0_X12_8
            have f_a0_X12_16 := u.1 _ _ _ _ f_a0_X12_16
            have f_a0_X12_13 := u.1 _ _ _ _ f_a0_X12_13
            have f_a0_X12_15 := u.1 _ _ _ _ f_a0_X12_15
            have hPS := hPS.sm (Sm.of3 u k_v90) (by decide) (by decide)
            have hRT := hRT.sm (Sm.of3 u k_v90) (by decide) (by decide)
            have hOS := hOS.push (op' := v86o.toInt + 1) (dp' := v86d.toInt) hw.2.2.1 f_a0_X12_15 u (by omega) rfl (by have q1 := li_12; have q2 := li_13; omega)
            refine lv_aload_n hx hb dX12_tested_99 rfl (lv_at hl 2 rfl) ?_
            refine lv_dup hx hb dX12_tested_100 rfl ?_
            refine t_getk (ci := 12) (C := RX12) (T := TX12) (N := 38) hx hb hts iX12 hown hw rfl 16 (by decide) (hts _ tw_1141) (fun _ h9 => h9) dX12_tested_101 f_a0_X12_16 ?_
            refine lv_iconst (v := 1) hx hb dX12_tested_104 (by decide) ?_
            refine lv_iadd hx hb dX12_tested_105 ?_
            refine lv_topi (fun v105 e_v105 => ?_)
            have e_v105 : v105.toInt = v86o.toInt + 1 := ad_i e_v105 rfl li_1 (by omega) (by omega)
            refine t_put (ci := 12) (C := RX12) (T := TX12) (N := 38) (v := .int v105) hx hb hts iX12 tyX12 tyX12_ok nmX12 hown hw k_a0 rfl rfl rfl 16 (by decide) (hts _ tw_1141) (fun _ h9 => h9) rfl (tyX12_ok 16 (by decide)) rfl rfl (okV.int rfl (by omega) (by omega)) dX12_tested_106 (fun w_20 H locs hw u => ?_)
            have hM := hM.up1 u (by decide)
            have f_a0_X12_11 := u.1 _ _ _ _ f_a0_X12_11 (Or.inr (Or.inr (by decide)))
            have f_a0_X12_12 := u.1 _ _ _ _ f_a0_X12_12 (Or.inr (Or.inr (by decide)))
            have f_a0_X12_1 := u.1 _ _ _ _ f_a0_X12_1 (Or.inr (Or.inr (by decide)))
            have f_a0_X12_8 := u.1 _ _ _ _ f_a0_X12_8 (Or.inr (Or.inr (by decide)))
            have f_a0_X12_16 := u.2.2
            have f_a0_X12_13 := u.1 _ _ _ _ f_a0_X12_13 (Or.inr (Or.inr (by decide)))
            have f_a0_X12_15 := u.1 _ _ _ _ f_a0_X12_15 (Or.inr (Or.inr (by decide)))
            have hPS := hPS.sm (Sm.of1 u) (by decide) (by decide)
            have hRT := hRT.sm (Sm.of1 u) (by decide) (by decide)
            have hOS := hOS.sm (Sm.of1 u) (by decide) (by decide)
            refine lv_goto (tgt := 12) hx hb dX12_tested_109 (by decide) ?_
            exact ih_12 _ _ _ _ (by have := li_1; omega) ⟨w_20, 1, v17m, v86d, v105, hw, hM, (by decide), (by decide), (by omega), (by omega), (by omega), (by omega), (by omega), (by omega), f_a0_X12_11, f_a0_X12_12, f_a0_X12_13, f_a0_X12_16, (by have := li_1; omega), ⟨_, hOS.to (by have := li_1; omega) (by have := li_1; omega)⟩, (hPS.to (by have := li_1; omega) (by have := li_1; omega)), (lv_sub hl [2, 1] rfl), rfl⟩
        · simp only [fa_lt, fa_le, fa_eq, li_0] at c_36
          refine lv_aload_n hx hb dX12_tested_39 rfl (lv_at hl 0 rfl) ?_
          refine lv_ldc2 (v := 28530) hx hb hown (hts _ tw_1419) dX12_tested_40 ?_
          refine lv_topl (fun v40 e_v40 => ?_)
          have t_v40 : v40.toInt = 28530 := by rw [e_v40]; decide
          refine t_calli (va_runV (As := [.long v40]) (rest := []) ⟨hx, hb, hml, hown, hts⟩ (t_X12_isWord l dC dI tys κ B w_9 hw.2.2.2.2 a0 k_a0 v40 v33n (by omega) (by omega) f_a0_X12_8 v33q1 (by omega) (by omega) f_a0_X12_1 H.size) (cwV 1 hts (gUV tw_1273 tw_1275 ts_3_5 tw_13 tw_1276) rfl rfl rfl (by decide +kernel) ⟨(Nat.le_of_ble_eq_true rfl), (Nat.le_of_ble_eq_true rfl)⟩) ⟨cPre.blind, t_recv hw (ci := 12) k_a0 rfl rfl, cPre.use hw.2.1 hw.1 hw.2.2.1 hE⟩ rfl rfl hl.1 rfl (lv_room (Nat.le_of_ble_eq_true rfl)) dX12_tested_43 ⟨(Nat.le_of_ble_eq_true rfl), (Nat.le_of_ble_eq_true rfl)⟩) hw hA (fun _ _ h => h.2.2.1) (fun v43 w_21 H locs hp hw => ?_)
          obtain ⟨l_v43, h_v43, _, hm, ⟨v43n, l_v43n, h_v43n, f_a0_X12_8, y_v43⟩⟩ := hp
          have hM := hM.trans hm (by decide) (by decide)
          have f_a0_X12_11 := hm.1 _ _ _ _ f_a0_X12_11 (by decide)
          have f_a0_X12_12 := hm.1 _ _ _ _ f_a0_X12_12 (by decide)
          have f_a0_X12_16 := hm.1 _ _ _ _ f_a0_X12_16 (by decide)
          have f_a0_X12_13 := hm.1 _ _ _ _ f_a0_X12_13 (by decide)
          have f_a0_X12_1 := hm.1 _ _ _ _ f_a0_X12_1 (by decide)
          have hPS := hPS.sm hm (by decide) (by decide)
          have hRT := hRT.sm hm (by decide) (by decide)
          have hOS := hOS.sm hm (by decide) (by decide)
          refine lv_if_eq (tgt := 53) hx hb dX12_tested_46 (by decide) (fun c_46 => ?_) (fun c_46 => ?_)
          · simp only [fa_lt, fa_le, fa_eq, li_0] at c_46
            refine lv_iconst (v := 0) hx hb dX12_tested_53 (by decide) ?_
            refine lv_istore_n (lv' := [(1, .int 0), (0, .ref a0)]) hx hb dX12_tested_54 rfl hl (by decide) rfl (fun ls hl => ?_)
            refine lv_iload_n hx hb dX12_tested_55 rfl (lv_at hl 0 rfl) ?_
            refine lv_if_eq (tgt := 12) hx hb dX12_tested_56 (by decide) (fun _ => ?_) (fun c_56 => absurd c_56 (by decide))
            exact ih_12 _ _ _ _ (by have := li_0; omega) ⟨w_21, 0, v17m, v26d, v26o, hw, hM, (by decide), (by decide), (by omega), (by omega), (by omega), (by omega), (by omega), (by omega), f_a0_X12_11, f_a0_X12_12, f_a0_X12_13, f_a0_X12_16, (by have := li_0; omega), ⟨_, hOS.to (by have := li_0; omega) (by have := li_0; omega)⟩, (hPS.to (by have := li_0; omega) (by have := li_0; omega)), (lv_sub hl [1, 0] rfl), rfl⟩
          · simp only [fa_lt, fa_le, fa_eq, li_0] at c_46
            refine lv_iconst (v := 1) hx hb dX12_tested_49 (by decide) ?_
            refine lv_goto (tgt := 54) hx hb dX12_tested_50 (by decide) ?_
            refine lv_istore_n (lv' := [(1, .int 1), (0, .ref a0)]) hx hb dX12_tested_54 rfl hl (by decide) rfl (fun ls hl => ?_)
            refine lv_iload_n hx hb dX12_tested_55 rfl (lv_at hl 0 rfl) ?_
            refine lv_if_eq (tgt := 12) hx hb dX12_tested_56 (by decide) (fun c_56 => absurd c_56 (by decide)) (fun _ => ?_)
            refine lv_aload_n hx hb dX12_tested_59 rfl (lv_at hl 1 rfl) ?_
            refine lv_ldc2 (v := 6385252) hx hb hown (hts _ tw_1418) dX12_tested_60 ?_
            refine lv_topl (fun v60 e_v60 => ?_)
            have t_v60 : v60.toInt = 6385252 := by rw [e_v60]; decide
            refine t_calli (va_runV (As := [.long v60]) (rest := []) ⟨hx, hb, hml, hown, hts⟩ (t_X12_isWord l dC dI tys κ B w_21 hw.2.2.2.2 a0 k_a0 v60 v43n (by omega) (by omega) f_a0_X12_8 v33q1 (by omega) (by omega) f_a0_X12_1 H.size) (cwV 1 hts (gUV tw_1273 tw_1275 ts_3_5 tw_13 tw_1276) rfl rfl rfl (by decide +kernel) ⟨(Nat.le_of_ble_eq_true rfl), (Nat.le_of_ble_eq_true rfl)⟩) ⟨cPre.blind, t_recv hw (ci := 12) k_a0 rfl rfl, cPre.use hw.2.1 hw.1 hw.2.2.1 hE⟩ rfl rfl hl.1 rfl (lv_room (Nat.le_of_ble_eq_true rfl)) dX12_tested_63 ⟨(Nat.le_of_ble_eq_true rfl), (Nat.le_of_ble_eq_true rfl)⟩) hw hA (fun _ _ h => h.2.2.1) (fun v63 w_22 H locs hp hw => ?_)
            obtain ⟨l_v63, h_v63, _, hm, ⟨v63n, l_v63n, h_v63n, f_a0_X12_8, y_v63⟩⟩ := hp
            have hM := hM.trans hm (by decide) (by decide)
            have f_a0_X12_11 := hm.1 _ _ _ _ f_a0_X12_11 (by decide)
            have f_a0_X12_12 := hm.1 _ _ _ _ f_a0_X12_12 (by decide)
            have f_a0_X12_16 := hm.1 _ _ _ _ f_a0_X12_16 (by decide)
            have f_a0_X12_13 := hm.1 _ _ _ _ f_a0_X12_13 (by decide)
            have f_a0_X12_1 := hm.1 _ _ _ _ f_a0_X12_1 (by decide)
            have hPS := hPS.sm hm (by decide) (by decide)
            have hRT := hRT.sm hm (by decide) (by decide)
            have hOS := hOS.sm hm (by decide) (by decide)
            refine lv_if_eq (tgt := 74) hx hb dX12_tested_66 (by decide) (fun c_66 => ?_) (fun c_66 => ?_)
            · simp only [fa_lt, fa_le, fa_eq, li_0] at c_66
              refine lv_bipush (v := 13) hx hb dX12_tested_74 (by decide) ?_
              refine lv_istore_n (lv' := [(2, .int 13), (1, .int 1), (0, .ref a0)]) hx hb dX12_tested_76 rfl hl (by decide) rfl (fun ls hl => ?_)
              refine lv_aload_n hx hb dX12_tested_77 rfl (lv_at hl 2 rfl) ?_
              refine t_callv (va_runV (As := []) (rest := []) ⟨hx, hb, hml, hown, hts⟩ (t_X12_passWord l dC dI tys κ B w_22 hw.2.2.2.2 a0 k_a0 v63n (by omega) (by omega) f_a0_X12_8 v33q1 (by omega) (by omega) f_a0_X12_1 H.size) (cwV 0 hts (gUV tw_1300 tw_1302 ts_3_10 tw_13 tw_1303) rfl rfl rfl (by decide +kernel) ⟨(Nat.le_of_ble_eq_true rfl), (Nat.le_of_ble_eq_true rfl)⟩) ⟨cPre.blind, t_recv hw (ci := 12) k_a0 rfl rfl, cPre.use hw.2.1 hw.1 hw.2.2.1 hE⟩ rfl rfl hl.1 rfl (lv_room (Nat.le_of_ble_eq_true rfl)) dX12_tested_78 ⟨(Nat.le_of_ble_eq_true rfl), (Nat.le_of_ble_eq_true rfl)⟩) hw hA (fun _ h => h.1) (fun w_23 H locs hp hw => ?_)
              obtain ⟨_, hm, ⟨v78n, l_v78n, h_v78n, f_a0_X12_8, y_v78⟩⟩ := hp
              have hM := hM.trans hm (by decide) (by decide)
              have f_a0_X12_11 := hm.1 _ _ _ _ f_a0_X12_11 (by decide)
              have f_a0_X12_12 := hm.1 _ _ _ _ f_a0_X12_12 (by decide)
              have f_a0_X12_16 := hm.1 _ _ _ _ f_a0_X12_16 (by decide)
              have f_a0_X12_13 := hm.1 _ _ _ _ f_a0_X12_13 (by decide)
              have f_a0_X12_1 := hm.1 _ _ _ _ f_a0_X12_1 (by decide)
              have hPS := hPS.sm hm (by decide) (by decide)
              have hRT := hRT.sm hm (by decide) (by decide)
              have hOS := hOS.sm hm (by decide) (by decide)
              refine lv_aload_n hx hb dX12_tested_81 rfl (lv_at hl 2 rfl) ?_
              refine lv_iload_n hx hb dX12_tested_82 rfl (lv_at hl 0 rfl) ?_
              refine t_calli (va_runS (As := [.int 13]) (rest := [.ref a0]) ⟨hx, hb, hml, hown, hts⟩ (t_X12_strength l dC dI tys κ B w_23 hw.2.2.2.2 13 H.size) (va_cwS 1 hts (gUS tw_1411 tw_1412 tw_13 tw_1413) rfl rfl rfl (by decide +kernel) ⟨(Nat.le_of_ble_eq_true rfl), (Nat.le_of_ble_eq_true rfl)⟩) ⟨cPre.blind, cPre.use hw.2.1 hw.1 hw.2.2.1 hE⟩ rfl rfl hl.1 rfl (lv_room (Nat.le_of_ble_eq_true rfl)) dX12_tested_83 ⟨(Nat.le_of_ble_eq_true rfl), (Nat.le_of_ble_eq_true rfl)⟩) hw hA (fun _ _ h => h.2.2.1) (fun v83 w_24 H locs hp hw => ?_)
              obtain ⟨l_v83, h_v83, _, hm, x_v83_0⟩ := hp
              have zc_13 := li_13
              have hM := hM.trans hm (by decide) (by decide)
              have f_a0_X12_11 := hm.1 _ _ _ _ f_a0_X12_11 (by decide)
              have f_a0_X12_12 := hm.1 _ _ _ _ f_a0_X12_12 (by decide)
              have f_a0_X12_16 := hm.1 _ _ _ _ f_a0_X12_16 (by decide)
              have f_a0_X12_13 := hm.1 _ _ _ _ f_a0_X12_13 (by decide)
              have f_a0_X12_1 := hm.1 _ _ _ _ f_a0_X12_1 (by decide)
              have f_a0_X12_8 := hm.1 _ _ _ _ f_a0_X12_8 (by decide)
              have hPS := hPS.sm hm (by decide) (by decide)
              have hRT := hRT.sm hm (by decide) (by decide)
              have hOS := hOS.sm hm (by decide) (by decide)
              refine t_callv (va_runV (As := [.int v83]) (rest := []) ⟨hx, hb, hml, hown, hts⟩ (t_X12_settles l dC dI tys κ B w_24 hw.2.2.2.2 a0 k_a0 v83 (by omega) (by omega) v26o (by omega) (by omega) f_a0_X12_16 v26d (by omega) (by omega) f_a0_X12_13 f1 (by omega) (by omega) f_a0_X12_11 hOS hPS (by omega) (by omega) H.size) (cwV 1 hts (gUV tw_1407 tw_1409 ts_5_1 tw_13 tw_1410) rfl rfl rfl (by decide +kernel) ⟨(Nat.le_of_ble_eq_true rfl), (Nat.le_of_ble_eq_true rfl)⟩) ⟨cPre.blind, t_recv hw (ci := 12) k_a0 rfl rfl, cPre.use hw.2.1 hw.1 hw.2.2.1 hE⟩ rfl rfl hl.1 rfl (lv_room (Nat.le_of_ble_eq_true rfl)) dX12_tested_86 ⟨(Nat.le_of_ble_eq_true rfl), (Nat.le_of_ble_eq_true rfl)⟩) hw hA (fun _ h => h.1) (fun w_25 H locs hp hw => ?_)
              obtain ⟨_, hm, ⟨v86o, v86d, l_v86o, h_v86o, l_v86d, h_v86d, f_a0_X12_16, f_a0_X12_13, y_v86, ⟨hOS, hPS, hIn_v86, hTp_v86⟩⟩⟩ := hp
              have hM := hM.trans hm (by decide) (by decide)
              have f_a0_X12_11 := hm.1 _ _ _ _ f_a0_X12_11 (by decide)
              have f_a0_X12_12 := hm.1 _ _ _ _ f_a0_X12_12 (by decide)
              have f_a0_X12_1 := hm.1 _ _ _ _ f_a0_X12_1 (by decide)
              have f_a0_X12_8 := hm.1 _ _ _ _ f_a0_X12_8 (by decide)
              have hRT := hPS.rt
              refine lv_aload_n hx hb dX12_tested_89 rfl (lv_at hl 2 rfl) ?_
              refine t_getr (k1 := 60) (ci := 12) (C := RX12) (T := TX12) (N := 38) hx hb hts iX12 hown hw k_a0 rfl rfl rfl 15 (by decide) (hts _ tw_1140) (fun _ h9 => h9) dX12_tested_90 rfl (fun v90 k_v90 f_a0_X12_15 => ?_)
              refine lv_aload_n hx hb dX12_tested_93 rfl (lv_at hl 2 rfl) ?_
              refine t_getk (ci := 12) (C := RX12) (T := TX12) (N := 38) hx hb hts iX12 hown hw rfl 16 (by decide) (hts _ tw_1141) (fun _ h9 => h9) dX12_tested_94 f_a0_X12_16 ?_
              refine lv_iload_n hx hb dX12_tested_97 rfl (lv_at hl 0 rfl) ?_
              refine t_iast hx hb hw k_v90 rfl rfl (by omega) (show v86o.toInt < 400 by omega) (i32_lo _) (i32_hi _) dX12_tested_98 (fun w_26 H locs hw u => ?_)
              have hM := hM.up3 u k_v90 (by decide)
              have f_a0_X12_11 := u.1 _ _ _ _ f_a0_X12_11
              have f_a0_X12_12 := u.1 _ _ _ _ f_a0_X12_12
              have f_a0_X12_1 := u.1 _ _ _ _ f_a0_X12_1
              have f_a0_X12_8 := u.1 _ _ _ _ f_a0_X12_8
              have f_a0_X12_16 := u.1 _ _ _ _ f_a0_X12_16
              have f_a0_X12_13 := u.1 _ _ _ _ f_a0_X12_13
              have f_a0_X12_15 := u.1 _ _ _ _ f_a0_X12_15
              have hPS := hPS.sm (Sm.of3 u k_v90) (by decide) (by decide)
              have hRT := hRT.sm (Sm.of3 u k_v90) (by decide) (by decide)
              have hOS := hOS.push (op' := v86o.toInt + 1) (dp' := v86d.toInt) hw.2.2.1 f_a0_X12_15 u (by omega) rfl (by have q1 := li_12; have q2 := li_13; omega)
              refine lv_aload_n hx hb dX12_tested_99 rfl (lv_at hl 2 rfl) ?_
              refine lv_dup hx hb dX12_tested_100 rfl ?_
              refine t_getk (ci := 12) (C := RX12) (T := TX12) (N := 38) hx hb hts iX12 hown hw rfl 16 (by decide) (hts _ tw_1141) (fun _ h9 => h9) dX12_tested_101 f_a0_X12_16 ?_
              refine lv_iconst (v := 1) hx hb dX12_tested_104 (by decide) ?_
              refine lv_iadd hx hb dX12_tested_105 ?_
              refine lv_topi (fun v105 e_v105 => ?_)
              have e_v105 : v105.toInt = v86o.toInt + 1 := ad_i e_v105 rfl li_1 (by omega) (by omega)
              refine t_put (ci := 12) (C := RX12) (T := TX12) (N := 38) (v := .int v105) hx hb hts iX12 tyX12 tyX12_ok nmX12 hown hw k_a0 rfl rfl rfl 16 (by decide) (hts _ tw_1141) (fun _ h9 => h9) rfl (tyX12_ok 16 (by decide)) rfl rfl (okV.int rfl (by omega) (by omega)) dX12_tested_106 (fun w_27 H locs hw u => ?_)
              have hM := hM.up1 u (by decide)
              have f_a0_X12_11 := u.1 _ _ _ _ f_a0_X12_11 (Or.inr (Or.inr (by decide)))
              have f_a0_X12_12 := u.1 _ _ _ _ f_a0_X12_12 (Or.inr (Or.inr (by decide)))
              have f_a0_X12_1 := u.1 _ _ _ _ f_a0_X12_1 (Or.inr (Or.inr (by decide)))
              have f_a0_X12_8 := u.1 _ _ _ _ f_a0_X12_8 (Or.inr (Or.inr (by decide)))
              have f_a0_X12_16 := u.2.2
              have f_a0_X12_13 := u.1 _ _ _ _ f_a0_X12_13 (Or.inr (Or.inr (by decide)))
              have f_a0_X12_15 := u.1 _ _ _ _ f_a0_X12_15 (Or.inr (Or.inr (by decide)))
              have hPS := hPS.sm (Sm.of1 u) (by decide) (by decide)
              have hRT := hRT.sm (Sm.of1 u) (by decide) (by decide)
              have hOS := hOS.sm (Sm.of1 u) (by decide) (by decide)
              refine lv_goto (tgt := 12) hx hb dX12_tested_109 (by decide) ?_
              exact ih_12 _ _ _ _ (by have := li_1; omega) ⟨w_27, 1, v17m, v86d, v105, hw, hM, (by decide), (by decide), (by omega), (by omega), (by omega), (by omega), (by omega), (by omega), f_a0_X12_11, f_a0_X12_12, f_a0_X12_13, f_a0_X12_16, (by have := li_1; omega), ⟨_, hOS.to (by have := li_1; omega) (by have := li_1; omega)⟩, (hPS.to (by have := li_1; omega) (by have := li_1; omega)), (lv_sub hl [2, 1] rfl), rfl⟩
            · simp only [fa_lt, fa_le, fa_eq, li_0] at c_66
              refine lv_bipush (v := 12) hx hb dX12_tested_69 (by decide) ?_
              refine lv_goto (tgt := 76) hx hb dX12_tested_71 (by decide) ?_
              refine lv_istore_n (lv' := [(2, .int 12), (1, .int 1), (0, .ref a0)]) hx hb dX12_tested_76 rfl hl (by decide) rfl (fun ls hl => ?_)
              refine lv_aload_n hx hb dX12_tested_77 rfl (lv_at hl 2 rfl) ?_
              refine t_callv (va_runV (As := []) (rest := []) ⟨hx, hb, hml, hown, hts⟩ (t_X12_passWord l dC dI tys κ B w_22 hw.2.2.2.2 a0 k_a0 v63n (by omega) (by omega) f_a0_X12_8 v33q1 (by omega) (by omega) f_a0_X12_1 H.size) (cwV 0 hts (gUV tw_1300 tw_1302 ts_3_10 tw_13 tw_1303) rfl rfl rfl (by decide +kernel) ⟨(Nat.le_of_ble_eq_true rfl), (Nat.le_of_ble_eq_true rfl)⟩) ⟨cPre.blind, t_recv hw (ci := 12) k_a0 rfl rfl, cPre.use hw.2.1 hw.1 hw.2.2.1 hE⟩ rfl rfl hl.1 rfl (lv_room (Nat.le_of_ble_eq_true rfl)) dX12_tested_78 ⟨(Nat.le_of_ble_eq_true rfl), (Nat.le_of_ble_eq_true rfl)⟩) hw hA (fun _ h => h.1) (fun w_28 H locs hp hw => ?_)
              obtain ⟨_, hm, ⟨v78n, l_v78n, h_v78n, f_a0_X12_8, y_v78⟩⟩ := hp
              have hM := hM.trans hm (by decide) (by decide)
              have f_a0_X12_11 := hm.1 _ _ _ _ f_a0_X12_11 (by decide)
              have f_a0_X12_12 := hm.1 _ _ _ _ f_a0_X12_12 (by decide)
              have f_a0_X12_16 := hm.1 _ _ _ _ f_a0_X12_16 (by decide)
              have f_a0_X12_13 := hm.1 _ _ _ _ f_a0_X12_13 (by decide)
              have f_a0_X12_1 := hm.1 _ _ _ _ f_a0_X12_1 (by decide)
              have hPS := hPS.sm hm (by decide) (by decide)
              have hRT := hRT.sm hm (by decide) (by decide)
              have hOS := hOS.sm hm (by decide) (by decide)
              refine lv_aload_n hx hb dX12_tested_81 rfl (lv_at hl 2 rfl) ?_
              refine lv_iload_n hx hb dX12_tested_82 rfl (lv_at hl 0 rfl) ?_
              refine t_calli (va_runS (As := [.int 12]) (rest := [.ref a0]) ⟨hx, hb, hml, hown, hts⟩ (t_X12_strength l dC dI tys κ B w_28 hw.2.2.2.2 12 H.size) (va_cwS 1 hts (gUS tw_1411 tw_1412 tw_13 tw_1413) rfl rfl rfl (by decide +kernel) ⟨(Nat.le_of_ble_eq_true rfl), (Nat.le_of_ble_eq_true rfl)⟩) ⟨cPre.blind, cPre.use hw.2.1 hw.1 hw.2.2.1 hE⟩ rfl rfl hl.1 rfl (lv_room (Nat.le_of_ble_eq_true rfl)) dX12_tested_83 ⟨(Nat.le_of_ble_eq_true rfl), (Nat.le_of_ble_eq_true rfl)⟩) hw hA (fun _ _ h => h.2.2.1) (fun v83 w_29 H locs hp hw => ?_)
              obtain ⟨l_v83, h_v83, _, hm, x_v83_0⟩ := hp
              have zc_12 := li_12
              have hM := hM.trans hm (by decide) (by decide)
              have f_a0_X12_11 := hm.1 _ _ _ _ f_a0_X12_11 (by decide)
              have f_a0_X12_12 := hm.1 _ _ _ _ f_a0_X12_12 (by decide)
              have f_a0_X12_16 := hm.1 _ _ _ _ f_a0_X12_16 (by decide)
              have f_a0_X12_13 := hm.1 _ _ _ _ f_a0_X12_13 (by decide)
              have f_a0_X12_1 := hm.1 _ _ _ _ f_a0_X12_1 (by decide)
              have f_a0_X12_8 := hm.1 _ _ _ _ f_a0_X12_8 (by decide)
              have hPS := hPS.sm hm (by decide) (by decide)
              have hRT := hRT.sm hm (by decide) (by decide)
              have hOS := hOS.sm hm (by decide) (by decide)
              refine t_callv (va_runV (As := [.int v83]) (rest := []) ⟨hx, hb, hml, hown, hts⟩ (t_X12_settles l dC dI tys κ B w_29 hw.2.2.2.2 a0 k_a0 v83 (by omega) (by omega) v26o (by omega) (by omega) f_a0_X12_16 v26d (by omega) (by omega) f_a0_X12_13 f1 (by omega) (by omega) f_a0_X12_11 hOS hPS (by omega) (by omega) H.size) (cwV 1 hts (gUV tw_1407 tw_1409 ts_5_1 tw_13 tw_1410) rfl rfl rfl (by decide +kernel) ⟨(Nat.le_of_ble_eq_true rfl), (Nat.le_of_ble_eq_true rfl)⟩) ⟨cPre.blind, t_recv hw (ci := 12) k_a0 rfl rfl, cPre.use hw.2.1 hw.1 hw.2.2.1 hE⟩ rfl rfl hl.1 rfl (lv_room (Nat.le_of_ble_eq_true rfl)) dX12_tested_86 ⟨(Nat.le_of_ble_eq_true rfl), (Nat.le_of_ble_eq_true rfl)⟩) hw hA (fun _ h => h.1) (fun w_30 H locs hp hw => ?_)
              obtain ⟨_, hm, ⟨v86o, v86d, l_v86o, h_v86o, l_v86d, h_v86d, f_a0_X12_16, f_a0_X12_13, y_v86, ⟨hOS, hPS, hIn_v86, hTp_v86⟩⟩⟩ := hp
              have hM := hM.trans hm (by decide) (by decide)
              have f_a0_X12_11 := hm.1 _ _ _ _ f_a0_X12_11 (by decide)
              have f_a0_X12_12 := hm.1 _ _ _ _ f_a0_X12_12 (by decide)
              have f_a0_X12_1 := hm.1 _ _ _ _ f_a0_X12_1 (by decide)
              have f_a0_X12_8 := hm.1 _ _ _ _ f_a0_X12_8 (by decide)
              have hRT := hPS.rt
              refine lv_aload_n hx hb dX12_tested_89 rfl (lv_at hl 2 rfl) ?_
              refine t_getr (k1 := 60) (ci := 12) (C := RX12) (T := TX12) (N := 38) hx hb hts iX12 hown hw k_a0 rfl rfl rfl 15 (by decide) (hts _ tw_1140) (fun _ h9 => h9) dX12_tested_90 rfl (fun v90 k_v90 f_a0_X12_15 => ?_)
              refine lv_aload_n hx hb dX12_tested_93 rfl (lv_at hl 2 rfl) ?_
              refine t_getk (ci := 12) (C := RX12) (T := TX12) (N := 38) hx hb hts iX12 hown hw rfl 16 (by decide) (hts _ tw_1141) (fun _ h9 => h9) dX12_tested_94 f_a0_X12_16 ?_
              refine lv_iload_n hx hb dX12_tested_97 rfl (lv_at hl 0 rfl) ?_
              refine t_iast hx hb hw k_v90 rfl rfl (by omega) (show v86o.toInt < 400 by omega) (i32_lo _) (i32_hi _) dX12_tested_98 (fun w_31 H locs hw u => ?_)
              have hM := hM.up3 u k_v90 (by decide)
              have f_a0_X12_11 := u.1 _ _ _ _ f_a0_X12_11
              have f_a0_X12_12 := u.1 _ _ _ _ f_a0_X12_12
              have f_a0_X12_1 := u.1 _ _ _ _ f_a0_X12_1
              have f_a0_X12_8 := u.1 _ _ _ _ f_a0_X12_8
              have f_a0_X12_16 := u.1 _ _ _ _ f_a0_X12_16
              have f_a0_X12_13 := u.1 _ _ _ _ f_a0_X12_13
              have f_a0_X12_15 := u.1 _ _ _ _ f_a0_X12_15
              have hPS := hPS.sm (Sm.of3 u k_v90) (by decide) (by decide)
              have hRT := hRT.sm (Sm.of3 u k_v90) (by decide) (by decide)
              have hOS := hOS.push (op' := v86o.toInt + 1) (dp' := v86d.toInt) hw.2.2.1 f_a0_X12_15 u (by omega) rfl (by have q1 := li_12; have q2 := li_13; omega)
              refine lv_aload_n hx hb dX12_tested_99 rfl (lv_at hl 2 rfl) ?_
              refine lv_dup hx hb dX12_tested_100 rfl ?_
              refine t_getk (ci := 12) (C := RX12) (T := TX12) (N := 38) hx hb hts iX12 hown hw rfl 16 (by decide) (hts _ tw_1141) (fun _ h9 => h9) dX12_tested_101 f_a0_X12_16 ?_
              refine lv_iconst (v := 1) hx hb dX12_tested_104 (by decide) ?_
              refine lv_iadd hx hb dX12_tested_105 ?_
              refine lv_topi (fun v105 e_v105 => ?_)
              have e_v105 : v105.toInt = v86o.toInt + 1 := ad_i e_v105 rfl li_1 (by omega) (by omega)
              refine t_put (ci := 12) (C := RX12) (T := TX12) (N := 38) (v := .int v105) hx hb hts iX12 tyX12 tyX12_ok nmX12 hown hw k_a0 rfl rfl rfl 16 (by decide) (hts _ tw_1141) (fun _ h9 => h9) rfl (tyX12_ok 16 (by decide)) rfl rfl (okV.int rfl (by omega) (by omega)) dX12_tested_106 (fun w_32 H locs hw u => ?_)
              have hM := hM.up1 u (by decide)
              have f_a0_X12_11 := u.1 _ _ _ _ f_a0_X12_11 (Or.inr (Or.inr (by decide)))
              have f_a0_X12_12 := u.1 _ _ _ _ f_a0_X12_12 (Or.inr (Or.inr (by decide)))
              have f_a0_X12_1 := u.1 _ _ _ _ f_a0_X12_1 (Or.inr (Or.inr (by decide)))
              have f_a0_X12_8 := u.1 _ _ _ _ f_a0_X12_8 (Or.inr (Or.inr (by decide)))
              have f_a0_X12_16 := u.2.2
              have f_a0_X12_13 := u.1 _ _ _ _ f_a0_X12_13 (Or.inr (Or.inr (by decide)))
              have f_a0_X12_15 := u.1 _ _ _ _ f_a0_X12_15 (Or.inr (Or.inr (by decide)))
              have hPS := hPS.sm (Sm.of1 u) (by decide) (by decide)
              have hRT := hRT.sm (Sm.of1 u) (by decide) (by decide)
              have hOS := hOS.sm (Sm.of1 u) (by decide) (by decide)
              refine lv_goto (tgt := 12) hx hb dX12_tested_109 (by decide) ?_
              exact ih_12 _ _ _ _ (by have := li_1; omega) ⟨w_32, 1, v17m, v86d, v105, hw, hM, (by decide), (by decide), (by omega), (by omega), (by omega), (by omega), (by omega), (by omega), f_a0_X12_11, f_a0_X12_12, f_a0_X12_13, f_a0_X12_16, (by have := li_1; omega), ⟨_, hOS.to (by have := li_1; omega) (by have := li_1; omega)⟩, (hPS.to (by have := li_1; omega) (by have := li_1; omega)), (lv_sub hl [2, 1] rfl), rfl⟩
      · simp only [fa_lt, fa_le, fa_eq, li_0] at c_20
        have hRT := g_v17.1 c_20
        refine lv_iconst (v := 0) hx hb dX12_tested_23 (by decide) ?_
        rw [hQ]
        refine W.widen (k := 0) (n := 0) (Nat.le_refl _) (Nat.le_refl _) ?_
        exact W.zret (v := 0) hx hb hr rfl (fun t ht hW => ⟨⟨0, w_7, rfl, ⟨(by decide), (by decide), hw.2.2.2.2, hM, ⟨v17m, (by omega), (by omega), f_a0_X12_12, ⟨fun _ => hRT, fun hz => absurd (by decide) hz⟩⟩⟩, by rw [ht]; exact hw.2.1, va_K.moved hW.alike hw.1, hw.2.2.1⟩, hw.2.2.2.1.F ht⟩) hw.2.2.2.1.2.2 dX12_tested_24
  exact J12 _ _ _ _ ⟨w_2, 1, f0, 0, 0, hw, hM, (by decide), (by decide), (by omega), (by omega), (by decide), (by decide), (by decide), (by decide), f_a0_X12_11, f_a0_X12_12, f_a0_X12_13, f_a0_X12_16, (by have := li_1; have := li_0; have := li_0; omega), ⟨_, hOS.to (by have := li_1; have := li_0; have := li_0; omega) (by have := li_1; have := li_0; have := li_0; omega)⟩, (hPS.to (by have := li_1; have := li_0; have := li_0; omega) (by have := li_1; have := li_0; have := li_0; omega)), (lv_sub hl [1, 0] rfl), rfl⟩
set_option maxHeartbeats 4000000 in
set_option maxRecDepth 100000 in
theorem t_X12_isVoteHere (l : Launch) (dC : Nat → ClassId) (dI : Nat → Nat → Nat) (tys : List (ClassId × FieldType)) (κ : tK) (B : Nat) (ws : va_W) (hT : Ty κ tys B ws) (a0 : Nat) (k_a0 : κ a0 = some 12) (f0 : Int32) (l_f0 : 0 ≤ f0.toInt) (h_f0 : f0.toInt ≤ 60) (f_a0_X12_12 : fld ws a0 12 12 (.int f0)) (f1 : Int32) (l_f1 : 0 ≤ f1.toInt) (h_f1 : f1.toInt ≤ 5) (f_a0_X12_11 : fld ws a0 12 11 (.int f1)) {b h nc : Int} (hPS : PS κ ws a0 f1.toInt.toNat 0 (-1) b h (6 * f0.toInt) nc) (hnc : nc ≤ 11) (sz : Nat) : Met l yX12_isVoteHere (ws_u yX12_isVoteHere cX12_isVoteHere 2 (some .boolean)) ({ frames := 9, cells := 0, slots := 0, locals := 198 }) (va_Pc [.ref a0] (cPre (dC, dI) tys ws sz)) (va_Qi (fun (r : Int32) (w : va_W) => 0 ≤ r.toInt ∧ r.toInt ≤ 1 ∧ Ty κ tys B w ∧ Sm [(12, 8), (12, 9), (12, 10), (12, 12), (12, 13), (12, 16)] [55, 56, 57, 58, 60] κ ws w ∧ (∃ (xm : Int32), 0 ≤ xm.toInt ∧ xm.toInt ≤ 60 ∧ fld w a0 12 12 (.int xm) ∧ Alt r (RT κ w a0) (∃ b9 h9 : Int, PS κ w a0 f1.toInt.toNat 0 (-1) b9 h9 (6 * xm.toInt) (nc + 1)))) (fun w t => cPost (dC, dI) tys w (va_A ws sz) t) (va_A ws sz)) 0 0 (va_A ws sz) := by
  refine Met.ofW (cc := cX12_isVoteHere) (maxL := 2) (ret := (some .boolean)) (by decide) rfl ?_
  intro p e s m args below meth c s₁ B0 hml hv
  obtain ⟨rfl, hsz, hP, hK, hD0, hE⟩ := hv
  have hx := B0.exec
  have hb := B0.bytes
  have hr := B0.returns
  have hts0 := atoms_spec (ws := ws_u yX12_isVoteHere cX12_isVoteHere 2 (some .boolean)) B0.pre
  have hts : ∀ w ∈ gT, w.before _ s = true := fun w h => hts0 w (List.mem_cons_of_mem _ h)
  have hown : s.vm.findClass RX12 = some m.cls := findClass_of_methodNamed B0.named
  have hlocks := B0.notSynchronized
  subst hsz
  have hD := hD0.self (sz := s.heap.size)
  generalize hAe : va_A ws s.heap.size = A at hD ⊢
  have hA : ∀ q : Nat, s.heap.size ≤ q → A q := fun q h => by rw [← hAe]; exact Or.inr h
  have hw : tW (dC, dI) tys κ B A s ws s.heap [] := ⟨hK, hP, hD, va_S.rf, hT⟩
  have hM : Sm [(12, 8), (12, 9), (12, 10), (12, 12), (12, 13), (12, 16)] [55, 56, 57, 58, 60] κ ws ws := Sm.rf
  clear hP hK hD hD0 hts0
  have hl := lv_entry ([.ref a0]) (n := 2) (Nat.le_of_ble_eq_true rfl)
  rw [lg_entry_eq]
  generalize (lg_sl ([.ref a0]) ++ List.replicate (2 - (lg_sl ([.ref a0])).length) Slot.unset).toArray = ls at hl ⊢
  have hl : lv_has ls 2 [(0, .ref a0)] := hl
  refine t_start (fun QQ hQ => ?_)
  have hRT := hPS.rt
  refine lv_aload_n hx hb dX12_isVoteHere_0 rfl (lv_at hl 0 rfl) ?_
  obtain ⟨u_v1q0, q_v1q0, f_a0_X12_8⟩ := t_peek (k := 8) hw.2.2.2.2 k_a0 rfl (by decide)
  obtain ⟨v1q0, rfl, l_v1q0, h_v1q0⟩ := q_v1q0.geti (lo := 0) (hi := 401) rfl
  obtain ⟨u_v1q1, q_v1q1, f_a0_X12_1⟩ := t_peek (k := 1) hw.2.2.2.2 k_a0 rfl (by decide)
  obtain ⟨v1q1, rfl, l_v1q1, h_v1q1⟩ := q_v1q1.geti (lo := 0) (hi := 400) rfl
  refine t_callv (va_runV (As := []) (rest := []) ⟨hx, hb, hml, hown, hts⟩ (t_X12_passWord l dC dI tys κ B ws hw.2.2.2.2 a0 k_a0 v1q0 (by omega) (by omega) f_a0_X12_8 v1q1 (by omega) (by omega) f_a0_X12_1 s.heap.size) (cwV 0 hts (gUV tw_1300 tw_1302 ts_3_10 tw_13 tw_1303) rfl rfl rfl (by decide +kernel) ⟨(Nat.le_of_ble_eq_true rfl), (Nat.le_of_ble_eq_true rfl)⟩) ⟨cPre.blind, t_recv hw (ci := 12) k_a0 rfl rfl, cPre.use hw.2.1 hw.1 hw.2.2.1 hE⟩ rfl rfl hl.1 rfl (lv_room (Nat.le_of_ble_eq_true rfl)) dX12_isVoteHere_1 ⟨(Nat.le_of_ble_eq_true rfl), (Nat.le_of_ble_eq_true rfl)⟩) hw hA (fun _ h => h.1) (fun w_1 H locs hp hw => ?_)
  obtain ⟨_, hm, ⟨v1n, l_v1n, h_v1n, f_a0_X12_8, y_v1⟩⟩ := hp
  have hM := hM.trans hm (by decide) (by decide)
  have f_a0_X12_12 := hm.1 _ _ _ _ f_a0_X12_12 (by decide)
  have f_a0_X12_11 := hm.1 _ _ _ _ f_a0_X12_11 (by decide)
  have f_a0_X12_1 := hm.1 _ _ _ _ f_a0_X12_1 (by decide)
  have hPS := hPS.sm hm (by decide) (by decide)
  have hRT := hRT.sm hm (by decide) (by decide)
  refine lv_bipush (v := 48) hx hb dX12_isVoteHere_4 (by decide) ?_
  refine lv_aload_n hx hb dX12_isVoteHere_6 rfl (lv_at hl 0 rfl) ?_
  refine t_getk (ci := 12) (C := RX12) (T := TX12) (N := 38) hx hb hts iX12 hown hw rfl 11 (by decide) (hts _ tw_1136) (fun _ h9 => h9) dX12_isVoteHere_7 f_a0_X12_11 ?_
  refine lv_imul hx hb dX12_isVoteHere_10 ?_
  refine lv_topi (fun v10 e_v10 => ?_)
  have e_v10 : v10.toInt = 48 * f1.toInt := ml_i e_v10 li_48 rfl (by omega) (by omega)
  refine lv_iconst (v := 4) hx hb dX12_isVoteHere_11 (by decide) ?_
  refine lv_aload_n hx hb dX12_isVoteHere_12 rfl (lv_at hl 0 rfl) ?_
  refine t_getr (k1 := 58) (ci := 12) (C := RX12) (T := TX12) (N := 38) hx hb hts iX12 hown hw k_a0 rfl rfl rfl 6 (by decide) (hts _ tw_1131) (fun _ h9 => h9) dX12_isVoteHere_13 rfl (fun v13 k_v13 f_a0_X12_6 => ?_)
  refine lv_aload_n hx hb dX12_isVoteHere_16 rfl (lv_at hl 0 rfl) ?_
  refine t_getk (ci := 12) (C := RX12) (T := TX12) (N := 38) hx hb hts iX12 hown hw rfl 11 (by decide) (hts _ tw_1136) (fun _ h9 => h9) dX12_isVoteHere_17 f_a0_X12_11 ?_
  refine t_iald hx hb hw k_v13 rfl rfl (by omega) (show f1.toInt < 6 by omega) dX12_isVoteHere_20 (fun v20 r_v20 s_v20 q_v20 => ?_)
  have l_v20 : 0 ≤ v20.toInt := r_v20
  have h_v20 : v20.toInt ≤ 12 := s_v20
  have hn20 := hPS.cn hw.2.2.1 f_a0_X12_6 q_v20
  refine lv_imul hx hb dX12_isVoteHere_21 ?_
  refine lv_topi (fun v21 e_v21 => ?_)
  have e_v21 : v21.toInt = 4 * v20.toInt := ml_i e_v21 li_4 rfl (by omega) (by omega)
  refine lv_iadd hx hb dX12_isVoteHere_22 ?_
  refine lv_topi (fun v22 e_v22 => ?_)
  have e_v22 : v22.toInt = v10.toInt + v21.toInt := ad_i e_v22 rfl rfl (by omega) (by omega)
  refine lv_istore_n (lv' := [(1, .int v22), (0, .ref a0)]) hx hb dX12_isVoteHere_23 rfl hl (by decide) rfl (fun ls hl => ?_)
  refine lv_aload_n hx hb dX12_isVoteHere_24 rfl (lv_at hl 1 rfl) ?_
  refine t_getr (k1 := 57) (ci := 12) (C := RX12) (T := TX12) (N := 38) hx hb hts iX12 hown hw k_a0 rfl rfl rfl 5 (by decide) (hts _ tw_1130) (fun _ h9 => h9) dX12_isVoteHere_25 rfl (fun v25 k_v25 f_a0_X12_5 => ?_)
  refine lv_iload_n hx hb dX12_isVoteHere_28 rfl (lv_at hl 0 rfl) ?_
  refine lv_aload_n hx hb dX12_isVoteHere_29 rfl (lv_at hl 1 rfl) ?_
  refine t_getr (k1 := 56) (ci := 12) (C := RX12) (T := TX12) (N := 38) hx hb hts iX12 hown hw k_a0 rfl rfl rfl 4 (by decide) (hts _ tw_1129) (fun _ h9 => h9) dX12_isVoteHere_30 rfl (fun v30 k_v30 f_a0_X12_4 => ?_)
  refine lv_aload_n hx hb dX12_isVoteHere_33 rfl (lv_at hl 1 rfl) ?_
  refine t_getk (ci := 12) (C := RX12) (T := TX12) (N := 38) hx hb hts iX12 hown hw rfl 11 (by decide) (hts _ tw_1136) (fun _ h9 => h9) dX12_isVoteHere_34 f_a0_X12_11 ?_
  refine t_iald hx hb hw k_v30 rfl rfl (by omega) (show f1.toInt < 7 by omega) dX12_isVoteHere_37 (fun v37 r_v37 s_v37 q_v37 => ?_)
  have l_v37 : 0 ≤ v37.toInt := r_v37
  have h_v37 : v37.toInt ≤ 400 := s_v37
  have ⟨hPS, hb37, hb37h, _⟩ := hPS.restart hw.2.2.1 f_a0_X12_4 q_v37
  refine t_iast hx hb hw k_v25 rfl rfl (by omega) (show v22.toInt < 288 by omega) (show (-1) ≤ v37.toInt by omega) (show v37.toInt ≤ 400 by omega) dX12_isVoteHere_38 (fun w_2 H locs hw u => ?_)
  have hM := hM.up3 u k_v25 (by decide)
  have f_a0_X12_12 := u.1 _ _ _ _ f_a0_X12_12
  have f_a0_X12_11 := u.1 _ _ _ _ f_a0_X12_11
  have f_a0_X12_1 := u.1 _ _ _ _ f_a0_X12_1
  have f_a0_X12_8 := u.1 _ _ _ _ f_a0_X12_8
  have f_a0_X12_6 := u.1 _ _ _ _ f_a0_X12_6
  have f_a0_X12_5 := u.1 _ _ _ _ f_a0_X12_5
  have f_a0_X12_4 := u.1 _ _ _ _ f_a0_X12_4
  have hPS := hPS.upq hnc (by omega) hw.2.2.1 f_a0_X12_5 u (by omega) (by omega)
  have hRT := hPS.rt
  have hq0 := u.2.2.2
  rw [show v22.toInt.toNat = 48 * f1.toInt.toNat + 4 * nc.toNat by omega] at hq0
  refine lv_aload_n hx hb dX12_isVoteHere_39 rfl (lv_at hl 1 rfl) ?_
  refine t_calli (va_runV (As := []) (rest := []) ⟨hx, hb, hml, hown, hts⟩ (t_X12_sum l dC dI tys κ B w_2 hw.2.2.2.2 a0 k_a0 f0 (by omega) (by omega) f_a0_X12_12 f1 (by omega) (by omega) f_a0_X12_11 hPS (by omega) (by omega) (by omega) H.size) (cwV 0 hts (gUV tw_1347 tw_1349 ts_4_5 tw_13 tw_1350) rfl rfl rfl (by decide +kernel) ⟨(Nat.le_of_ble_eq_true rfl), (Nat.le_of_ble_eq_true rfl)⟩) ⟨cPre.blind, t_recv hw (ci := 12) k_a0 rfl rfl, cPre.use hw.2.1 hw.1 hw.2.2.1 hE⟩ rfl rfl hl.1 rfl (lv_room (Nat.le_of_ble_eq_true rfl)) dX12_isVoteHere_40 ⟨(Nat.le_of_ble_eq_true rfl), (Nat.le_of_ble_eq_true rfl)⟩) hw hA (fun _ _ h => h.2.2.1) (fun v40 w_3 H locs hp hw => ?_)
  obtain ⟨l_v40, h_v40, _, hm, ⟨v40m, l_v40m, h_v40m, f_a0_X12_12, y_v40, g_v40⟩⟩ := hp
  have hM := hM.trans hm (by decide) (by decide)
  have f_a0_X12_11 := hm.1 _ _ _ _ f_a0_X12_11 (by decide)
  have f_a0_X12_1 := hm.1 _ _ _ _ f_a0_X12_1 (by decide)
  have f_a0_X12_6 := hm.1 _ _ _ _ f_a0_X12_6 (by decide)
  have f_a0_X12_5 := hm.1 _ _ _ _ f_a0_X12_5 (by decide)
  have f_a0_X12_4 := hm.1 _ _ _ _ f_a0_X12_4 (by decide)
  have hq0 := hm.elt k_v25 (by decide) hq0
  refine lv_if_ne (tgt := 48) hx hb dX12_isVoteHere_43 (by decide) (fun c_43 => ?_) (fun c_43 => ?_)
  · simp only [fa_lt, fa_le, fa_eq, li_0] at c_43
    have hPS := g_v40.2 c_43
    have hRT := hPS.rt
    refine lv_aload_n hx hb dX12_isVoteHere_48 rfl (lv_at hl 1 rfl) ?_
    refine t_getk (ci := 12) (C := RX12) (T := TX12) (N := 38) hx hb hts iX12 hown hw rfl 5 (by decide) (hts _ tw_1130) (fun _ h9 => h9) dX12_isVoteHere_49 f_a0_X12_5 ?_
    refine lv_iload_n hx hb dX12_isVoteHere_52 rfl (lv_at hl 0 rfl) ?_
    refine lv_iconst (v := 1) hx hb dX12_isVoteHere_53 (by decide) ?_
    refine lv_iadd hx hb dX12_isVoteHere_54 ?_
    refine lv_topi (fun v54 e_v54 => ?_)
    have e_v54 : v54.toInt = v22.toInt + 1 := ad_i e_v54 rfl li_1 (by omega) (by omega)
    refine lv_aload_n hx hb dX12_isVoteHere_55 rfl (lv_at hl 1 rfl) ?_
    refine t_getk (ci := 12) (C := RX12) (T := TX12) (N := 38) hx hb hts iX12 hown hw rfl 4 (by decide) (hts _ tw_1129) (fun _ h9 => h9) dX12_isVoteHere_56 f_a0_X12_4 ?_
    refine lv_aload_n hx hb dX12_isVoteHere_59 rfl (lv_at hl 1 rfl) ?_
    refine t_getk (ci := 12) (C := RX12) (T := TX12) (N := 38) hx hb hts iX12 hown hw rfl 11 (by decide) (hts _ tw_1136) (fun _ h9 => h9) dX12_isVoteHere_60 f_a0_X12_11 ?_
    refine t_iald hx hb hw k_v30 rfl rfl (by omega) (show f1.toInt < 7 by omega) dX12_isVoteHere_63 (fun v63 r_v63 s_v63 q_v63 => ?_)
    have l_v63 : 0 ≤ v63.toInt := r_v63
    have h_v63 : v63.toInt ≤ 400 := s_v63
    have ⟨hPS, hb63, hb63h, hb63l⟩ := hPS.close (by omega) (by omega) hw.2.2.1 f_a0_X12_4 q_v63
    refine t_iast hx hb hw k_v25 rfl rfl (by omega) (show v54.toInt < 288 by omega) (show (-1) ≤ v63.toInt by omega) (show v63.toInt ≤ 400 by omega) dX12_isVoteHere_64 (fun w_4 H locs hw u => ?_)
    have hM := hM.up3 u k_v25 (by decide)
    have f_a0_X12_11 := u.1 _ _ _ _ f_a0_X12_11
    have f_a0_X12_1 := u.1 _ _ _ _ f_a0_X12_1
    have f_a0_X12_6 := u.1 _ _ _ _ f_a0_X12_6
    have f_a0_X12_5 := u.1 _ _ _ _ f_a0_X12_5
    have f_a0_X12_4 := u.1 _ _ _ _ f_a0_X12_4
    have f_a0_X12_12 := u.1 _ _ _ _ f_a0_X12_12
    have hPS := hPS.upq hnc (by omega) hw.2.2.1 f_a0_X12_5 u (by omega) (by omega)
    have hRT := hPS.rt
    have hq0 := u.2.2.1 _ _ _ hq0 (Or.inr (by omega))
    have hq1 := u.2.2.2
    rw [show v54.toInt.toNat = 48 * f1.toInt.toNat + 4 * nc.toNat + 1 by omega] at hq1
    refine lv_aload_n hx hb dX12_isVoteHere_65 rfl (lv_at hl 1 rfl) ?_
    refine t_getk (ci := 12) (C := RX12) (T := TX12) (N := 38) hx hb hts iX12 hown hw rfl 5 (by decide) (hts _ tw_1130) (fun _ h9 => h9) dX12_isVoteHere_66 f_a0_X12_5 ?_
    refine lv_iload_n hx hb dX12_isVoteHere_69 rfl (lv_at hl 0 rfl) ?_
    refine lv_iconst (v := 2) hx hb dX12_isVoteHere_70 (by decide) ?_
    refine lv_iadd hx hb dX12_isVoteHere_71 ?_
    refine lv_topi (fun v71 e_v71 => ?_)
    have e_v71 : v71.toInt = v22.toInt + 2 := ad_i e_v71 rfl li_2 (by omega) (by omega)
    refine lv_iconst (v := (-1)) hx hb dX12_isVoteHere_72 (by decide) ?_
    refine t_iast hx hb hw k_v25 rfl rfl (by omega) (show v71.toInt < 288 by omega) (show (-1) ≤ ((-1) : Int32).toInt by decide) (show ((-1) : Int32).toInt ≤ 400 by decide) dX12_isVoteHere_73 (fun w_5 H locs hw u => ?_)
    have hM := hM.up3 u k_v25 (by decide)
    have f_a0_X12_11 := u.1 _ _ _ _ f_a0_X12_11
    have f_a0_X12_1 := u.1 _ _ _ _ f_a0_X12_1
    have f_a0_X12_6 := u.1 _ _ _ _ f_a0_X12_6
    have f_a0_X12_5 := u.1 _ _ _ _ f_a0_X12_5
    have f_a0_X12_4 := u.1 _ _ _ _ f_a0_X12_4
    have f_a0_X12_12 := u.1 _ _ _ _ f_a0_X12_12
    have hPS := hPS.upq hnc (by omega) hw.2.2.1 f_a0_X12_5 u (by omega) (by omega)
    have hRT := hPS.rt
    have hq0 := u.2.2.1 _ _ _ hq0 (Or.inr (by omega))
    have hq1 := u.2.2.1 _ _ _ hq1 (Or.inr (by omega))
    have hq2 := u.2.2.2
    rw [show v71.toInt.toNat = 48 * f1.toInt.toNat + 4 * nc.toNat + 2 by omega] at hq2
    refine lv_aload_n hx hb dX12_isVoteHere_74 rfl (lv_at hl 1 rfl) ?_
    refine lv_ldc2 (v := 26982) hx hb hown (hts _ tw_1381) dX12_isVoteHere_75 ?_
    refine lv_topl (fun v75 e_v75 => ?_)
    have t_v75 : v75.toInt = 26982 := by rw [e_v75]; decide
    refine t_calli (va_runV (As := [.long v75]) (rest := []) ⟨hx, hb, hml, hown, hts⟩ (t_X12_takesWord l dC dI tys κ B w_5 hw.2.2.2.2 a0 k_a0 v75 H.size) (cwV 1 hts (gUV tw_1382 tw_1384 ts_4_11 tw_13 tw_1385) rfl rfl rfl (by decide +kernel) ⟨(Nat.le_of_ble_eq_true rfl), (Nat.le_of_ble_eq_true rfl)⟩) ⟨cPre.blind, t_recv hw (ci := 12) k_a0 rfl rfl, cPre.use hw.2.1 hw.1 hw.2.2.1 hE⟩ rfl rfl hl.1 rfl (lv_room (Nat.le_of_ble_eq_true rfl)) dX12_isVoteHere_78 ⟨(Nat.le_of_ble_eq_true rfl), (Nat.le_of_ble_eq_true rfl)⟩) hw hA (fun _ _ h => h.2.2.1) (fun v78 w_6 H locs hp hw => ?_)
    obtain ⟨l_v78, h_v78, _, hm⟩ := hp
    have hM := hM.trans hm (by decide) (by decide)
    have f_a0_X12_11 := hm.1 _ _ _ _ f_a0_X12_11 (by decide)
    have f_a0_X12_1 := hm.1 _ _ _ _ f_a0_X12_1 (by decide)
    have f_a0_X12_6 := hm.1 _ _ _ _ f_a0_X12_6 (by decide)
    have f_a0_X12_5 := hm.1 _ _ _ _ f_a0_X12_5 (by decide)
    have f_a0_X12_4 := hm.1 _ _ _ _ f_a0_X12_4 (by decide)
    have f_a0_X12_12 := hm.1 _ _ _ _ f_a0_X12_12 (by decide)
    have hPS := hPS.sm hm (by decide) (by decide)
    have hRT := hRT.sm hm (by decide) (by decide)
    have hq0 := hm.elt k_v25 (by decide) hq0
    have hq1 := hm.elt k_v25 (by decide) hq1
    have hq2 := hm.elt k_v25 (by decide) hq2
    refine lv_if_eq (tgt := 110) hx hb dX12_isVoteHere_81 (by decide) (fun c_81 => ?_) (fun c_81 => ?_)
    · simp only [fa_lt, fa_le, fa_eq, li_0] at c_81
      refine lv_aload_n hx hb dX12_isVoteHere_110 rfl (lv_at hl 1 rfl) ?_
      refine t_getk (ci := 12) (C := RX12) (T := TX12) (N := 38) hx hb hts iX12 hown hw rfl 5 (by decide) (hts _ tw_1130) (fun _ h9 => h9) dX12_isVoteHere_111 f_a0_X12_5 ?_
      refine lv_iload_n hx hb dX12_isVoteHere_114 rfl (lv_at hl 0 rfl) ?_
      refine lv_iconst (v := 3) hx hb dX12_isVoteHere_115 (by decide) ?_
      refine lv_iadd hx hb dX12_isVoteHere_116 ?_
      refine lv_topi (fun v116 e_v116 => ?_)
      have e_v116 : v116.toInt = v22.toInt + 3 := ad_i e_v116 rfl li_3 (by omega) (by omega)
      refine lv_aload_n hx hb dX12_isVoteHere_117 rfl (lv_at hl 1 rfl) ?_
      refine t_getk (ci := 12) (C := RX12) (T := TX12) (N := 38) hx hb hts iX12 hown hw rfl 4 (by decide) (hts _ tw_1129) (fun _ h9 => h9) dX12_isVoteHere_118 f_a0_X12_4 ?_
      refine lv_aload_n hx hb dX12_isVoteHere_121 rfl (lv_at hl 1 rfl) ?_
      refine t_getk (ci := 12) (C := RX12) (T := TX12) (N := 38) hx hb hts iX12 hown hw rfl 11 (by decide) (hts _ tw_1136) (fun _ h9 => h9) dX12_isVoteHere_122 f_a0_X12_11 ?_
      refine t_iald hx hb hw k_v30 rfl rfl (by omega) (show f1.toInt < 7 by omega) dX12_isVoteHere_125 (fun v125 r_v125 s_v125 q_v125 => ?_)
      have l_v125 : 0 ≤ v125.toInt := r_v125
      have h_v125 : v125.toInt ≤ 400 := s_v125
      have hl125 := q_v125
      refine t_iast hx hb hw k_v25 rfl rfl (by omega) (show v116.toInt < 288 by omega) (show (-1) ≤ v125.toInt by omega) (show v125.toInt ≤ 400 by omega) dX12_isVoteHere_126 (fun w_7 H locs hw u => ?_)
      have hM := hM.up3 u k_v25 (by decide)
      have f_a0_X12_11 := u.1 _ _ _ _ f_a0_X12_11
      have f_a0_X12_1 := u.1 _ _ _ _ f_a0_X12_1
      have f_a0_X12_6 := u.1 _ _ _ _ f_a0_X12_6
      have f_a0_X12_5 := u.1 _ _ _ _ f_a0_X12_5
      have f_a0_X12_4 := u.1 _ _ _ _ f_a0_X12_4
      have f_a0_X12_12 := u.1 _ _ _ _ f_a0_X12_12
      have hPS := hPS.upq hnc (by omega) hw.2.2.1 f_a0_X12_5 u (by omega) (by omega)
      have hRT := hPS.rt
      have hq0 := u.2.2.1 _ _ _ hq0 (Or.inr (by omega))
      have hq1 := u.2.2.1 _ _ _ hq1 (Or.inr (by omega))
      have hq2 := u.2.2.1 _ _ _ hq2 (Or.inr (by omega))
      have hq3 := u.2.2.2
      rw [show v116.toInt.toNat = 48 * f1.toInt.toNat + 4 * nc.toNat + 3 by omega] at hq3
      have hl125 := u.2.2.1 _ _ _ hl125 (Or.inl (ne_k k_v30 k_v25 (by decide)))
      refine lv_aload_n hx hb dX12_isVoteHere_127 rfl (lv_at hl 1 rfl) ?_
      refine t_getk (ci := 12) (C := RX12) (T := TX12) (N := 38) hx hb hts iX12 hown hw rfl 6 (by decide) (hts _ tw_1131) (fun _ h9 => h9) dX12_isVoteHere_128 f_a0_X12_6 ?_
      refine lv_aload_n hx hb dX12_isVoteHere_131 rfl (lv_at hl 1 rfl) ?_
      refine t_getk (ci := 12) (C := RX12) (T := TX12) (N := 38) hx hb hts iX12 hown hw rfl 11 (by decide) (hts _ tw_1136) (fun _ h9 => h9) dX12_isVoteHere_132 f_a0_X12_11 ?_
      refine lv_dup2_11 hx hb dX12_isVoteHere_135 rfl rfl ?_
      refine t_iald hx hb hw k_v13 rfl rfl (by omega) (show f1.toInt < 6 by omega) dX12_isVoteHere_136 (fun v136 r_v136 s_v136 q_v136 => ?_)
      have l_v136 : 0 ≤ v136.toInt := r_v136
      have h_v136 : v136.toInt ≤ 12 := s_v136
      have hn136 := hPS.cn hw.2.2.1 f_a0_X12_6 q_v136
      have hDo := hw.2.2.1
      have hflo := f_a0_X12_4
      have hfqo := f_a0_X12_5
      refine lv_iconst (v := 1) hx hb dX12_isVoteHere_137 (by decide) ?_
      refine lv_iadd hx hb dX12_isVoteHere_138 ?_
      refine lv_topi (fun v138 e_v138 => ?_)
      have e_v138 : v138.toInt = v136.toInt + 1 := ad_i e_v138 rfl li_1 (by omega) (by omega)
      refine t_iast hx hb hw k_v13 rfl rfl (by omega) (show f1.toInt < 6 by omega) (show 0 ≤ v138.toInt by omega) (show v138.toInt ≤ 12 by omega) dX12_isVoteHere_139 (fun w_8 H locs hw u => ?_)
      have hM := hM.up3 u k_v13 (by decide)
      have f_a0_X12_11 := u.1 _ _ _ _ f_a0_X12_11
      have f_a0_X12_1 := u.1 _ _ _ _ f_a0_X12_1
      have f_a0_X12_6 := u.1 _ _ _ _ f_a0_X12_6
      have f_a0_X12_5 := u.1 _ _ _ _ f_a0_X12_5
      have f_a0_X12_4 := u.1 _ _ _ _ f_a0_X12_4
      have f_a0_X12_12 := u.1 _ _ _ _ f_a0_X12_12
      have hPS := hPS.tell hDo hw.2.2.1 (by omega) hnc (by omega) hflo hfqo f_a0_X12_6 hl125 hq0 hq1 hq2 hq3 rfl rfl (by omega) (by first | exact Or.inl (by decide) | exact Or.inr ⟨rfl, by omega⟩) u (by omega)
      have hRT := hPS.rt
      refine lv_iconst (v := 1) hx hb dX12_isVoteHere_140 (by decide) ?_
      rw [hQ]
      refine W.widen (k := 0) (n := 0) (Nat.le_refl _) (Nat.le_refl _) ?_
      exact W.zret (v := 1) hx hb hr rfl (fun t ht hW => ⟨⟨1, w_8, rfl, ⟨(by decide), (by decide), hw.2.2.2.2, hM, ⟨v40m, (by omega), (by omega), f_a0_X12_12, ⟨fun hz => absurd hz (by decide), fun _ => ⟨_, _, hPS.to rfl (by omega)⟩⟩⟩⟩, by rw [ht]; exact hw.2.1, va_K.moved hW.alike hw.1, hw.2.2.1⟩, hw.2.2.2.1.F ht⟩) hw.2.2.2.1.2.2 dX12_isVoteHere_141
    · simp only [fa_lt, fa_le, fa_eq, li_0] at c_81
      refine lv_aload_n hx hb dX12_isVoteHere_84 rfl (lv_at hl 1 rfl) ?_
      refine t_getk (ci := 12) (C := RX12) (T := TX12) (N := 38) hx hb hts iX12 hown hw rfl 5 (by decide) (hts _ tw_1130) (fun _ h9 => h9) dX12_isVoteHere_85 f_a0_X12_5 ?_
      refine lv_iload_n hx hb dX12_isVoteHere_88 rfl (lv_at hl 0 rfl) ?_
      refine lv_iconst (v := 2) hx hb dX12_isVoteHere_89 (by decide) ?_
      refine lv_iadd hx hb dX12_isVoteHere_90 ?_
      refine lv_topi (fun v90 e_v90 => ?_)
      have e_v90 : v90.toInt = v22.toInt + 2 := ad_i e_v90 rfl li_2 (by omega) (by omega)
      refine lv_aload_n hx hb dX12_isVoteHere_91 rfl (lv_at hl 1 rfl) ?_
      refine t_getk (ci := 12) (C := RX12) (T := TX12) (N := 38) hx hb hts iX12 hown hw rfl 4 (by decide) (hts _ tw_1129) (fun _ h9 => h9) dX12_isVoteHere_92 f_a0_X12_4 ?_
      refine lv_aload_n hx hb dX12_isVoteHere_95 rfl (lv_at hl 1 rfl) ?_
      refine t_getk (ci := 12) (C := RX12) (T := TX12) (N := 38) hx hb hts iX12 hown hw rfl 11 (by decide) (hts _ tw_1136) (fun _ h9 => h9) dX12_isVoteHere_96 f_a0_X12_11 ?_
      refine t_iald hx hb hw k_v30 rfl rfl (by omega) (show f1.toInt < 7 by omega) dX12_isVoteHere_99 (fun v99 r_v99 s_v99 q_v99 => ?_)
      have l_v99 : 0 ≤ v99.toInt := r_v99
      have h_v99 : v99.toInt ≤ 400 := s_v99
      have ⟨hPS, hb99, hb99h, hb99l⟩ := hPS.restart hw.2.2.1 f_a0_X12_4 q_v99
      refine t_iast hx hb hw k_v25 rfl rfl (by omega) (show v90.toInt < 288 by omega) (show (-1) ≤ v99.toInt by omega) (show v99.toInt ≤ 400 by omega) dX12_isVoteHere_100 (fun w_9 H locs hw u => ?_)
      have hM := hM.up3 u k_v25 (by decide)
      have f_a0_X12_11 := u.1 _ _ _ _ f_a0_X12_11
      have f_a0_X12_1 := u.1 _ _ _ _ f_a0_X12_1
      have f_a0_X12_6 := u.1 _ _ _ _ f_a0_X12_6
      have f_a0_X12_5 := u.1 _ _ _ _ f_a0_X12_5
      have f_a0_X12_4 := u.1 _ _ _ _ f_a0_X12_4
      have f_a0_X12_12 := u.1 _ _ _ _ f_a0_X12_12
      have hPS := hPS.upq hnc (by omega) hw.2.2.1 f_a0_X12_5 u (by omega) (by omega)
      have hRT := hPS.rt
      have hq0 := u.2.2.1 _ _ _ hq0 (Or.inr (by omega))
      have hq1 := u.2.2.1 _ _ _ hq1 (Or.inr (by omega))
      have hq2 := u.2.2.2
      rw [show v90.toInt.toNat = 48 * f1.toInt.toNat + 4 * nc.toNat + 2 by omega] at hq2
      refine lv_aload_n hx hb dX12_isVoteHere_101 rfl (lv_at hl 1 rfl) ?_
      refine t_calli (va_runV (As := []) (rest := []) ⟨hx, hb, hml, hown, hts⟩ (t_X12_tested l dC dI tys κ B w_9 hw.2.2.2.2 a0 k_a0 v40m (by omega) (by omega) f_a0_X12_12 f1 (by omega) (by omega) f_a0_X12_11 hPS (by omega) H.size) (cwV 0 hts (gUV tw_1386 tw_1388 ts_4_12 tw_13 tw_1389) rfl rfl rfl (by decide +kernel) ⟨(Nat.le_of_ble_eq_true rfl), (Nat.le_of_ble_eq_true rfl)⟩) ⟨cPre.blind, t_recv hw (ci := 12) k_a0 rfl rfl, cPre.use hw.2.1 hw.1 hw.2.2.1 hE⟩ rfl rfl hl.1 rfl (lv_room (Nat.le_of_ble_eq_true rfl)) dX12_isVoteHere_102 ⟨(Nat.le_of_ble_eq_true rfl), (Nat.le_of_ble_eq_true rfl)⟩) hw hA (fun _ _ h => h.2.2.1) (fun v102 w_10 H locs hp hw => ?_)
      obtain ⟨l_v102, h_v102, _, hm, ⟨v102m, l_v102m, h_v102m, f_a0_X12_12, g_v102⟩⟩ := hp
      have hM := hM.trans hm (by decide) (by decide)
      have f_a0_X12_11 := hm.1 _ _ _ _ f_a0_X12_11 (by decide)
      have f_a0_X12_1 := hm.1 _ _ _ _ f_a0_X12_1 (by decide)
      have f_a0_X12_6 := hm.1 _ _ _ _ f_a0_X12_6 (by decide)
      have f_a0_X12_5 := hm.1 _ _ _ _ f_a0_X12_5 (by decide)
      have f_a0_X12_4 := hm.1 _ _ _ _ f_a0_X12_4 (by decide)
      have hq0 := hm.elt k_v25 (by decide) hq0
      have hq1 := hm.elt k_v25 (by decide) hq1
      have hq2 := hm.elt k_v25 (by decide) hq2
      refine lv_if_ne (tgt := 110) hx hb dX12_isVoteHere_105 (by decide) (fun c_105 => ?_) (fun c_105 => ?_)
      · simp only [fa_lt, fa_le, fa_eq, li_0] at c_105
        have hPS := g_v102.2 c_105
        have hRT := hPS.rt
        refine lv_aload_n hx hb dX12_isVoteHere_110 rfl (lv_at hl 1 rfl) ?_
        refine t_getk (ci := 12) (C := RX12) (T := TX12) (N := 38) hx hb hts iX12 hown hw rfl 5 (by decide) (hts _ tw_1130) (fun _ h9 => h9) dX12_isVoteHere_111 f_a0_X12_5 ?_
        refine lv_iload_n hx hb dX12_isVoteHere_114 rfl (lv_at hl 0 rfl) ?_
        refine lv_iconst (v := 3) hx hb dX12_isVoteHere_115 (by decide) ?_
        refine lv_iadd hx hb dX12_isVoteHere_116 ?_
        refine lv_topi (fun v116 e_v116 => ?_)
        have e_v116 : v116.toInt = v22.toInt + 3 := ad_i e_v116 rfl li_3 (by omega) (by omega)
        refine lv_aload_n hx hb dX12_isVoteHere_117 rfl (lv_at hl 1 rfl) ?_
        refine t_getk (ci := 12) (C := RX12) (T := TX12) (N := 38) hx hb hts iX12 hown hw rfl 4 (by decide) (hts _ tw_1129) (fun _ h9 => h9) dX12_isVoteHere_118 f_a0_X12_4 ?_
        refine lv_aload_n hx hb dX12_isVoteHere_121 rfl (lv_at hl 1 rfl) ?_
        refine t_getk (ci := 12) (C := RX12) (T := TX12) (N := 38) hx hb hts iX12 hown hw rfl 11 (by decide) (hts _ tw_1136) (fun _ h9 => h9) dX12_isVoteHere_122 f_a0_X12_11 ?_
        refine t_iald hx hb hw k_v30 rfl rfl (by omega) (show f1.toInt < 7 by omega) dX12_isVoteHere_125 (fun v125 r_v125 s_v125 q_v125 => ?_)
        have l_v125 : 0 ≤ v125.toInt := r_v125
        have h_v125 : v125.toInt ≤ 400 := s_v125
        have hl125 := q_v125
        refine t_iast hx hb hw k_v25 rfl rfl (by omega) (show v116.toInt < 288 by omega) (show (-1) ≤ v125.toInt by omega) (show v125.toInt ≤ 400 by omega) dX12_isVoteHere_126 (fun w_11 H locs hw u => ?_)
        have hM := hM.up3 u k_v25 (by decide)
        have f_a0_X12_11 := u.1 _ _ _ _ f_a0_X12_11
        have f_a0_X12_1 := u.1 _ _ _ _ f_a0_X12_1
        have f_a0_X12_6 := u.1 _ _ _ _ f_a0_X12_6
        have f_a0_X12_5 := u.1 _ _ _ _ f_a0_X12_5
        have f_a0_X12_4 := u.1 _ _ _ _ f_a0_X12_4
        have f_a0_X12_12 := u.1 _ _ _ _ f_a0_X12_12
        have hPS := hPS.upq hnc (by omega) hw.2.2.1 f_a0_X12_5 u (by omega) (by omega)
        have hRT := hPS.rt
        have hq0 := u.2.2.1 _ _ _ hq0 (Or.inr (by omega))
        have hq1 := u.2.2.1 _ _ _ hq1 (Or.inr (by omega))
        have hq2 := u.2.2.1 _ _ _ hq2 (Or.inr (by omega))
        have hq3 := u.2.2.2
        rw [show v116.toInt.toNat = 48 * f1.toInt.toNat + 4 * nc.toNat + 3 by omega] at hq3
        have hl125 := u.2.2.1 _ _ _ hl125 (Or.inl (ne_k k_v30 k_v25 (by decide)))
        refine lv_aload_n hx hb dX12_isVoteHere_127 rfl (lv_at hl 1 rfl) ?_
        refine t_getk (ci := 12) (C := RX12) (T := TX12) (N := 38) hx hb hts iX12 hown hw rfl 6 (by decide) (hts _ tw_1131) (fun _ h9 => h9) dX12_isVoteHere_128 f_a0_X12_6 ?_
        refine lv_aload_n hx hb dX12_isVoteHere_131 rfl (lv_at hl 1 rfl) ?_
        refine t_getk (ci := 12) (C := RX12) (T := TX12) (N := 38) hx hb hts iX12 hown hw rfl 11 (by decide) (hts _ tw_1136) (fun _ h9 => h9) dX12_isVoteHere_132 f_a0_X12_11 ?_
        refine lv_dup2_11 hx hb dX12_isVoteHere_135 rfl rfl ?_
        refine t_iald hx hb hw k_v13 rfl rfl (by omega) (show f1.toInt < 6 by omega) dX12_isVoteHere_136 (fun v136 r_v136 s_v136 q_v136 => ?_)
        have l_v136 : 0 ≤ v136.toInt := r_v136
        have h_v136 : v136.toInt ≤ 12 := s_v136
        have hn136 := hPS.cn hw.2.2.1 f_a0_X12_6 q_v136
        have hDo := hw.2.2.1
        have hflo := f_a0_X12_4
        have hfqo := f_a0_X12_5
        refine lv_iconst (v := 1) hx hb dX12_isVoteHere_137 (by decide) ?_
        refine lv_iadd hx hb dX12_isVoteHere_138 ?_
        refine lv_topi (fun v138 e_v138 => ?_)
        have e_v138 : v138.toInt = v136.toInt + 1 := ad_i e_v138 rfl li_1 (by omega) (by omega)
        refine t_iast hx hb hw k_v13 rfl rfl (by omega) (show f1.toInt < 6 by omega) (show 0 ≤ v138.toInt by omega) (show v138.toInt ≤ 12 by omega) dX12_isVoteHere_139 (fun w_12 H locs hw u => ?_)
        have hM := hM.up3 u k_v13 (by decide)
        have f_a0_X12_11 := u.1 _ _ _ _ f_a0_X12_11
        have f_a0_X12_1 := u.1 _ _ _ _ f_a0_X12_1
        have f_a0_X12_6 := u.1 _ _ _ _ f_a0_X12_6
        have f_a0_X12_5 := u.1 _ _ _ _ f_a0_X12_5
        have f_a0_X12_4 := u.1 _ _ _ _ f_a0_X12_4
        have f_a0_X12_12 := u.1 _ _ _ _ f_a0_X12_12
        have hPS := hPS.tell hDo hw.2.2.1 (by omega) hnc (by omega) hflo hfqo f_a0_X12_6 hl125 hq0 hq1 hq2 hq3 rfl rfl (by omega) (by first | exact Or.inl (by decide) | exact Or.inr ⟨rfl, by omega⟩) u (by omega)
        have hRT := hPS.rt
        refine lv_iconst (v := 1) hx hb dX12_isVoteHere_140 (by decide) ?_
        rw [hQ]
        refine W.widen (k := 0) (n := 0) (Nat.le_refl _) (Nat.le_refl _) ?_
        exact W.zret (v := 1) hx hb hr rfl (fun t ht hW => ⟨⟨1, w_12, rfl, ⟨(by decide), (by decide), hw.2.2.2.2, hM, ⟨v102m, (by omega), (by omega), f_a0_X12_12, ⟨fun hz => absurd hz (by decide), fun _ => ⟨_, _, hPS.to rfl (by omega)⟩⟩⟩⟩, by rw [ht]; exact hw.2.1, va_K.moved hW.alike hw.1, hw.2.2.1⟩, hw.2.2.2.1.F ht⟩) hw.2.2.2.1.2.2 dX12_isVoteHere_141
      · simp only [fa_lt, fa_le, fa_eq, li_0] at c_105
        have hRT := g_v102.1 c_105
        refine lv_iconst (v := 0) hx hb dX12_isVoteHere_108 (by decide) ?_
        rw [hQ]
        refine W.widen (k := 0) (n := 0) (Nat.le_refl _) (Nat.le_refl _) ?_
        exact W.zret (v := 0) hx hb hr rfl (fun t ht hW => ⟨⟨0, w_10, rfl, ⟨(by decide), (by decide), hw.2.2.2.2, hM, ⟨v102m, (by omega), (by omega), f_a0_X12_12, ⟨fun _ => hRT, fun hz => absurd (by decide) hz⟩⟩⟩, by rw [ht]; exact hw.2.1, va_K.moved hW.alike hw.1, hw.2.2.1⟩, hw.2.2.2.1.F ht⟩) hw.2.2.2.1.2.2 dX12_isVoteHere_109
  · simp only [fa_lt, fa_le, fa_eq, li_0] at c_43
    have hRT := g_v40.1 c_43
    refine lv_iconst (v := 0) hx hb dX12_isVoteHere_46 (by decide) ?_
    rw [hQ]
    refine W.widen (k := 0) (n := 0) (Nat.le_refl _) (Nat.le_refl _) ?_
    exact W.zret (v := 0) hx hb hr rfl (fun t ht hW => ⟨⟨0, w_3, rfl, ⟨(by decide), (by decide), hw.2.2.2.2, hM, ⟨v40m, (by omega), (by omega), f_a0_X12_12, ⟨fun _ => hRT, fun hz => absurd (by decide) hz⟩⟩⟩, by rw [ht]; exact hw.2.1, va_K.moved hW.alike hw.1, hw.2.2.1⟩, hw.2.2.2.1.F ht⟩) hw.2.2.2.1.2.2 dX12_isVoteHere_47
set_option maxHeartbeats 4000000 in
set_option maxRecDepth 100000 in
theorem t_X12_clauseHere (l : Launch) (dC : Nat → ClassId) (dI : Nat → Nat → Nat) (tys : List (ClassId × FieldType)) (κ : tK) (B : Nat) (ws : va_W) (hT : Ty κ tys B ws) (a0 : Nat) (k_a0 : κ a0 = some 12) (f0 : Int32) (l_f0 : 0 ≤ f0.toInt) (h_f0 : f0.toInt ≤ 40) (f_a0_X12_14 : fld ws a0 12 14 (.int f0)) (f1 : Int32) (l_f1 : 0 ≤ f1.toInt) (h_f1 : f1.toInt ≤ 60) (f_a0_X12_12 : fld ws a0 12 12 (.int f1)) (f2 : Int32) (l_f2 : 0 ≤ f2.toInt) (h_f2 : f2.toInt ≤ 6) (f_a0_X12_11 : fld ws a0 12 11 (.int f2)) (hCL : CL κ ws a0 f2.toInt f1.toInt f0.toInt) (sz : Nat) : Met l yX12_clauseHere (ws_u yX12_clauseHere cX12_clauseHere 3 (some .boolean)) ({ frames := 10, cells := 0, slots := 0, locals := 219 }) (va_Pc [.ref a0] (cPre (dC, dI) tys ws sz)) (va_Qi (fun (r : Int32) (w : va_W) => 0 ≤ r.toInt ∧ r.toInt ≤ 1 ∧ Ty κ tys B w ∧ Sm [(12, 8), (12, 9), (12, 10), (12, 12), (12, 13), (12, 14), (12, 16)] [55, 56, 57, 58, 59, 60] κ ws w ∧ (∃ (xl : Int32) (xm : Int32), 0 ≤ xl.toInt ∧ xl.toInt ≤ 40 ∧ 0 ≤ xm.toInt ∧ xm.toInt ≤ 60 ∧ fld w a0 12 14 (.int xl) ∧ fld w a0 12 12 (.int xm) ∧ ((xl.toInt = f0.toInt ∨ xl.toInt = f0.toInt + 1) ∧ (r.toInt = 0 ∨ xl.toInt = f0.toInt + 1)) ∧ Alt r (RT κ w a0) (CL κ w a0 f2.toInt xm.toInt xl.toInt))) (fun w t => cPost (dC, dI) tys w (va_A ws sz) t) (va_A ws sz)) 0 0 (va_A ws sz) := by
  refine Met.ofW (cc := cX12_clauseHere) (maxL := 3) (ret := (some .boolean)) (by decide) rfl ?_
  intro p e s m args below meth c s₁ B0 hml hv
  obtain ⟨rfl, hsz, hP, hK, hD0, hE⟩ := hv
  have hx := B0.exec
  have hb := B0.bytes
  have hr := B0.returns
  have hts0 := atoms_spec (ws := ws_u yX12_clauseHere cX12_clauseHere 3 (some .boolean)) B0.pre
  have hts : ∀ w ∈ gT, w.before _ s = true := fun w h => hts0 w (List.mem_cons_of_mem _ h)
  have hown : s.vm.findClass RX12 = some m.cls := findClass_of_methodNamed B0.named
  have hlocks := B0.notSynchronized
  subst hsz
  have hD := hD0.self (sz := s.heap.size)
  generalize hAe : va_A ws s.heap.size = A at hD ⊢
  have hA : ∀ q : Nat, s.heap.size ≤ q → A q := fun q h => by rw [← hAe]; exact Or.inr h
  have hw : tW (dC, dI) tys κ B A s ws s.heap [] := ⟨hK, hP, hD, va_S.rf, hT⟩
  have hM : Sm [(12, 8), (12, 9), (12, 10), (12, 12), (12, 13), (12, 14), (12, 16)] [55, 56, 57, 58, 59, 60] κ ws ws := Sm.rf
  clear hP hK hD hD0 hts0
  have hl := lv_entry ([.ref a0]) (n := 3) (Nat.le_of_ble_eq_true rfl)
  rw [lg_entry_eq]
  generalize (lg_sl ([.ref a0]) ++ List.replicate (3 - (lg_sl ([.ref a0])).length) Slot.unset).toArray = ls at hl ⊢
  have hl : lv_has ls 3 [(0, .ref a0)] := hl
  refine t_start (fun QQ hQ => ?_)
  have hRT := hCL.rt
  have hln : f2.toInt = 6 ∨ f0.toInt ≤ 12 := by
    rcases hCL with ⟨q, -⟩ | ⟨-, -, _, _, q⟩
    · exact Or.inl q
    · exact Or.inr q.nn.2.1
  refine lv_aload_n hx hb dX12_clauseHere_0 rfl (lv_at hl 0 rfl) ?_
  obtain ⟨u_v1q0, q_v1q0, f_a0_X12_8⟩ := t_peek (k := 8) hw.2.2.2.2 k_a0 rfl (by decide)
  obtain ⟨v1q0, rfl, l_v1q0, h_v1q0⟩ := q_v1q0.geti (lo := 0) (hi := 401) rfl
  obtain ⟨u_v1q1, q_v1q1, f_a0_X12_1⟩ := t_peek (k := 1) hw.2.2.2.2 k_a0 rfl (by decide)
  obtain ⟨v1q1, rfl, l_v1q1, h_v1q1⟩ := q_v1q1.geti (lo := 0) (hi := 400) rfl
  refine t_calli (va_runV (As := []) (rest := []) ⟨hx, hb, hml, hown, hts⟩ (t_X12_see l dC dI tys κ B ws hw.2.2.2.2 a0 k_a0 v1q0 (by omega) (by omega) f_a0_X12_8 v1q1 (by omega) (by omega) f_a0_X12_1 s.heap.size) (cwV 0 hts (gUV tw_1264 tw_1266 ts_3_3 tw_13 tw_1267) rfl rfl rfl (by decide +kernel) ⟨(Nat.le_of_ble_eq_true rfl), (Nat.le_of_ble_eq_true rfl)⟩) ⟨cPre.blind, t_recv hw (ci := 12) k_a0 rfl rfl, cPre.use hw.2.1 hw.1 hw.2.2.1 hE⟩ rfl rfl hl.1 rfl (lv_room (Nat.le_of_ble_eq_true rfl)) dX12_clauseHere_1 ⟨(Nat.le_of_ble_eq_true rfl), (Nat.le_of_ble_eq_true rfl)⟩) hw hA (fun _ _ h => h.2.2.1) (fun v1 w_1 H locs hp hw => ?_)
  obtain ⟨l_v1, h_v1, _, hm, ⟨v1n, l_v1n, h_v1n, f_a0_X12_8, y_v1⟩⟩ := hp
  have hM := hM.trans hm (by decide) (by decide)
  have f_a0_X12_14 := hm.1 _ _ _ _ f_a0_X12_14 (by decide)
  have f_a0_X12_12 := hm.1 _ _ _ _ f_a0_X12_12 (by decide)
  have f_a0_X12_11 := hm.1 _ _ _ _ f_a0_X12_11 (by decide)
  have f_a0_X12_1 := hm.1 _ _ _ _ f_a0_X12_1 (by decide)
  have hCL := hCL.sm hm (by decide) (by decide)
  have hRT := hRT.sm hm (by decide) (by decide)
  refine lv_pop hx hb dX12_clauseHere_4 rfl ?_
  refine lv_aload_n hx hb dX12_clauseHere_5 rfl (lv_at hl 0 rfl) ?_
  refine t_getk (ci := 12) (C := RX12) (T := TX12) (N := 38) hx hb hts iX12 hown hw rfl 8 (by decide) (hts _ tw_1133) (fun _ h9 => h9) dX12_clauseHere_6 f_a0_X12_8 ?_
  refine lv_istore_n (lv' := [(1, .int v1n), (0, .ref a0)]) hx hb dX12_clauseHere_9 rfl hl (by decide) rfl (fun ls hl => ?_)
  refine lv_aload_n hx hb dX12_clauseHere_10 rfl (lv_at hl 1 rfl) ?_
  refine t_getk (ci := 12) (C := RX12) (T := TX12) (N := 38) hx hb hts iX12 hown hw rfl 11 (by decide) (hts _ tw_1136) (fun _ h9 => h9) dX12_clauseHere_11 f_a0_X12_11 ?_
  refine lv_bipush (v := 6) hx hb dX12_clauseHere_14 (by decide) ?_
  refine lv_icmp_ne (tgt := 23) hx hb dX12_clauseHere_16 (by decide) (fun c_16 => ?_) (fun c_16 => ?_)
  · simp only [fa_lt, fa_le, fa_eq, li_6] at c_16
    refine lv_iconst (v := 0) hx hb dX12_clauseHere_23 (by decide) ?_
    refine lv_istore_n (lv' := [(2, .int 0), (1, .int v1n), (0, .ref a0)]) hx hb dX12_clauseHere_24 rfl hl (by decide) rfl (fun ls hl => ?_)
    refine lv_iload_n hx hb dX12_clauseHere_25 rfl (lv_at hl 0 rfl) ?_
    refine lv_if_eq (tgt := 39) hx hb dX12_clauseHere_26 (by decide) (fun _ => ?_) (fun c_26 => absurd c_26 (by decide))
    refine lv_aload_n hx hb dX12_clauseHere_39 rfl (lv_at hl 2 rfl) ?_
    refine lv_ldc2 (v := 1987015781) hx hb hown (hts _ tw_1287) dX12_clauseHere_40 ?_
    refine lv_topl (fun v40 e_v40 => ?_)
    have t_v40 : v40.toInt = 1987015781 := by rw [e_v40]; decide
    refine t_calli (va_runV (As := [.long v40]) (rest := []) ⟨hx, hb, hml, hown, hts⟩ (t_X12_isWord l dC dI tys κ B w_1 hw.2.2.2.2 a0 k_a0 v40 v1n (by omega) (by omega) f_a0_X12_8 v1q1 (by omega) (by omega) f_a0_X12_1 H.size) (cwV 1 hts (gUV tw_1273 tw_1275 ts_3_5 tw_13 tw_1276) rfl rfl rfl (by decide +kernel) ⟨(Nat.le_of_ble_eq_true rfl), (Nat.le_of_ble_eq_true rfl)⟩) ⟨cPre.blind, t_recv hw (ci := 12) k_a0 rfl rfl, cPre.use hw.2.1 hw.1 hw.2.2.1 hE⟩ rfl rfl hl.1 rfl (lv_room (Nat.le_of_ble_eq_true rfl)) dX12_clauseHere_43 ⟨(Nat.le_of_ble_eq_true rfl), (Nat.le_of_ble_eq_true rfl)⟩) hw hA (fun _ _ h => h.2.2.1) (fun v43 w_2 H locs hp hw => ?_)
    obtain ⟨l_v43, h_v43, _, hm, ⟨v43n, l_v43n, h_v43n, f_a0_X12_8, y_v43⟩⟩ := hp
    have hM := hM.trans hm (by decide) (by decide)
    have f_a0_X12_14 := hm.1 _ _ _ _ f_a0_X12_14 (by decide)
    have f_a0_X12_12 := hm.1 _ _ _ _ f_a0_X12_12 (by decide)
    have f_a0_X12_11 := hm.1 _ _ _ _ f_a0_X12_11 (by decide)
    have f_a0_X12_1 := hm.1 _ _ _ _ f_a0_X12_1 (by decide)
    have hCL := hCL.sm hm (by decide) (by decide)
    have hRT := hRT.sm hm (by decide) (by decide)
    refine lv_if_ne (tgt := 56) hx hb dX12_clauseHere_46 (by decide) (fun c_46 => ?_) (fun c_46 => ?_)
    · simp only [fa_lt, fa_le, fa_eq, li_0] at c_46
      refine lv_aload_n hx hb dX12_clauseHere_56 rfl (lv_at hl 2 rfl) ?_
      refine t_getk (ci := 12) (C := RX12) (T := TX12) (N := 38) hx hb hts iX12 hown hw rfl 14 (by decide) (hts _ tw_1139) (fun _ h9 => h9) dX12_clauseHere_57 f_a0_X12_14 ?_
      refine lv_iload_n hx hb dX12_clauseHere_60 rfl (lv_at hl 0 rfl) ?_
      refine lv_if_eq (tgt := 69) hx hb dX12_clauseHere_61 (by decide) (fun _ => ?_) (fun c_61 => absurd c_61 (by decide))
      refine lv_bipush (v := 12) hx hb dX12_clauseHere_69 (by decide) ?_
      refine lv_icmp_ne (tgt := 81) hx hb dX12_clauseHere_71 (by decide) (fun c_71 => ?_) (fun c_71 => ?_)
      · simp only [fa_lt, fa_le, fa_eq, li_12] at c_71
        refine lv_aload_n hx hb dX12_clauseHere_81 rfl (lv_at hl 2 rfl) ?_
        refine lv_dup hx hb dX12_clauseHere_82 rfl ?_
        refine t_getk (ci := 12) (C := RX12) (T := TX12) (N := 38) hx hb hts iX12 hown hw rfl 14 (by decide) (hts _ tw_1139) (fun _ h9 => h9) dX12_clauseHere_83 f_a0_X12_14 ?_
        refine lv_iconst (v := 1) hx hb dX12_clauseHere_86 (by decide) ?_
        refine lv_iadd hx hb dX12_clauseHere_87 ?_
        refine lv_topi (fun v87 e_v87 => ?_)
        have e_v87 : v87.toInt = f0.toInt + 1 := ad_i e_v87 rfl li_1 (by omega) (by omega)
        refine t_put (ci := 12) (C := RX12) (T := TX12) (N := 38) (v := .int v87) hx hb hts iX12 tyX12 tyX12_ok nmX12 hown hw k_a0 rfl rfl rfl 14 (by decide) (hts _ tw_1139) (fun _ h9 => h9) rfl (tyX12_ok 14 (by decide)) rfl rfl (okV.int rfl (by omega) (by omega)) dX12_clauseHere_88 (fun w_3 H locs hw u => ?_)
        have hM := hM.up1 u (by decide)
        have f_a0_X12_14 := u.2.2
        have f_a0_X12_12 := u.1 _ _ _ _ f_a0_X12_12 (Or.inr (Or.inr (by decide)))
        have f_a0_X12_11 := u.1 _ _ _ _ f_a0_X12_11 (Or.inr (Or.inr (by decide)))
        have f_a0_X12_1 := u.1 _ _ _ _ f_a0_X12_1 (Or.inr (Or.inr (by decide)))
        have f_a0_X12_8 := u.1 _ _ _ _ f_a0_X12_8 (Or.inr (Or.inr (by decide)))
        have hCL := hCL.sm (Sm.of1 u) (by decide) (by decide)
        have hRT := hRT.sm (Sm.of1 u) (by decide) (by decide)
        refine lv_iload_n hx hb dX12_clauseHere_91 rfl (lv_at hl 0 rfl) ?_
        refine lv_if_eq (tgt := 103) hx hb dX12_clauseHere_92 (by decide) (fun _ => ?_) (fun c_92 => absurd c_92 (by decide))
        refine lv_aload_n hx hb dX12_clauseHere_103 rfl (lv_at hl 2 rfl) ?_
        obtain ⟨b9, h9, hPS⟩ := hCL.ps (by omega)
        have hpn := hPS.nn
        refine t_calli (va_runV (As := []) (rest := []) ⟨hx, hb, hml, hown, hts⟩ (t_X12_isVoteHere l dC dI tys κ B w_3 hw.2.2.2.2 a0 k_a0 f1 (by omega) (by omega) f_a0_X12_12 f2 (by omega) (by omega) f_a0_X12_11 hPS (by omega) H.size) (cwV 0 hts (gUV tw_1343 tw_1345 ts_4_4 tw_13 tw_1346) rfl rfl rfl (by decide +kernel) ⟨(Nat.le_of_ble_eq_true rfl), (Nat.le_of_ble_eq_true rfl)⟩) ⟨cPre.blind, t_recv hw (ci := 12) k_a0 rfl rfl, cPre.use hw.2.1 hw.1 hw.2.2.1 hE⟩ rfl rfl hl.1 rfl (lv_room (Nat.le_of_ble_eq_true rfl)) dX12_clauseHere_104 ⟨(Nat.le_of_ble_eq_true rfl), (Nat.le_of_ble_eq_true rfl)⟩) hw hA (fun _ _ h => h.2.2.1) (fun v104 w_4 H locs hp hw => ?_)
        obtain ⟨l_v104, h_v104, _, hm, ⟨v104m, l_v104m, h_v104m, f_a0_X12_12, g_v104⟩⟩ := hp
        have hM := hM.trans hm (by decide) (by decide)
        have f_a0_X12_14 := hm.1 _ _ _ _ f_a0_X12_14 (by decide)
        have f_a0_X12_11 := hm.1 _ _ _ _ f_a0_X12_11 (by decide)
        have f_a0_X12_1 := hm.1 _ _ _ _ f_a0_X12_1 (by decide)
        rw [hQ]
        refine W.widen (k := 0) (n := 0) (Nat.le_refl _) (Nat.le_refl _) ?_
        exact W.zret (v := v104) hx hb hr (nb_i (by omega) (by omega)) (fun t ht hW => ⟨⟨v104, w_4, rfl, ⟨(by omega), (by omega), hw.2.2.2.2, hM, ⟨v87, v104m, (by omega), (by omega), (by omega), (by omega), f_a0_X12_14, f_a0_X12_12, (by omega), ⟨g_v104.1, fun hz => Or.inr ⟨by omega, by omega, by rw [e_v87]; exact g_v104.2 hz⟩⟩⟩⟩, by rw [ht]; exact hw.2.1, va_K.moved hW.alike hw.1, hw.2.2.1⟩, hw.2.2.2.1.F ht⟩) hw.2.2.2.1.2.2 dX12_clauseHere_107
      · simp only [fa_lt, fa_le, fa_eq, li_12] at c_71
        refine lv_aload_n hx hb dX12_clauseHere_74 rfl (lv_at hl 2 rfl) ?_
        refine lv_iconst (v := 4) hx hb dX12_clauseHere_75 (by decide) ?_
        refine lv_iload_n hx hb dX12_clauseHere_76 rfl (lv_at hl 1 rfl) ?_
        refine t_calli (va_runV (As := [.int 4, .int v1n]) (rest := []) ⟨hx, hb, hml, hown, hts⟩ (t_X12_fails l dC dI tys κ B w_2 hw.2.2.2.2 a0 k_a0 4 (by decide) (by decide) v1n (by omega) (by omega) H.size) (cwV 2 hts (gUV tw_1288 tw_1290 ts_3_7 tw_13 tw_1291) rfl rfl rfl (by decide +kernel) ⟨(Nat.le_of_ble_eq_true rfl), (Nat.le_of_ble_eq_true rfl)⟩) ⟨cPre.blind, t_recv hw (ci := 12) k_a0 rfl rfl, cPre.use hw.2.1 hw.1 hw.2.2.1 hE⟩ rfl rfl hl.1 rfl (lv_room (Nat.le_of_ble_eq_true rfl)) dX12_clauseHere_77 ⟨(Nat.le_of_ble_eq_true rfl), (Nat.le_of_ble_eq_true rfl)⟩) hw hA (fun _ _ h => h.2.2.1) (fun v77 w_5 H locs hp hw => ?_)
        obtain ⟨l_v77, h_v77, _, hm⟩ := hp
        have hM := hM.trans hm (by decide) (by decide)
        have f_a0_X12_14 := hm.1 _ _ _ _ f_a0_X12_14 (by decide)
        have f_a0_X12_12 := hm.1 _ _ _ _ f_a0_X12_12 (by decide)
        have f_a0_X12_11 := hm.1 _ _ _ _ f_a0_X12_11 (by decide)
        have f_a0_X12_1 := hm.1 _ _ _ _ f_a0_X12_1 (by decide)
        have f_a0_X12_8 := hm.1 _ _ _ _ f_a0_X12_8 (by decide)
        have hCL := hCL.sm hm (by decide) (by decide)
        have hRT := hRT.sm hm (by decide) (by decide)
        rw [hQ]
        refine W.widen (k := 0) (n := 0) (Nat.le_refl _) (Nat.le_refl _) ?_
        exact W.zret (v := v77) hx hb hr (nb_i (by omega) (by omega)) (fun t ht hW => ⟨⟨v77, w_5, rfl, ⟨(by omega), (by omega), hw.2.2.2.2, hM, ⟨f0, f1, (by omega), (by omega), (by omega), (by omega), f_a0_X12_14, f_a0_X12_12, (by omega), ⟨fun _ => hRT, fun hz => absurd (by omega) hz⟩⟩⟩, by rw [ht]; exact hw.2.1, va_K.moved hW.alike hw.1, hw.2.2.1⟩, hw.2.2.2.1.F ht⟩) hw.2.2.2.1.2.2 dX12_clauseHere_80
    · simp only [fa_lt, fa_le, fa_eq, li_0] at c_46
      refine lv_aload_n hx hb dX12_clauseHere_49 rfl (lv_at hl 2 rfl) ?_
      refine lv_iconst (v := 0) hx hb dX12_clauseHere_50 (by decide) ?_
      refine lv_iload_n hx hb dX12_clauseHere_51 rfl (lv_at hl 1 rfl) ?_
      refine t_calli (va_runV (As := [.int 0, .int v1n]) (rest := []) ⟨hx, hb, hml, hown, hts⟩ (t_X12_fails l dC dI tys κ B w_2 hw.2.2.2.2 a0 k_a0 0 (by decide) (by decide) v1n (by omega) (by omega) H.size) (cwV 2 hts (gUV tw_1288 tw_1290 ts_3_7 tw_13 tw_1291) rfl rfl rfl (by decide +kernel) ⟨(Nat.le_of_ble_eq_true rfl), (Nat.le_of_ble_eq_true rfl)⟩) ⟨cPre.blind, t_recv hw (ci := 12) k_a0 rfl rfl, cPre.use hw.2.1 hw.1 hw.2.2.1 hE⟩ rfl rfl hl.1 rfl (lv_room (Nat.le_of_ble_eq_true rfl)) dX12_clauseHere_52 ⟨(Nat.le_of_ble_eq_true rfl), (Nat.le_of_ble_eq_true rfl)⟩) hw hA (fun _ _ h => h.2.2.1) (fun v52 w_6 H locs hp hw => ?_)
      obtain ⟨l_v52, h_v52, _, hm⟩ := hp
      have hM := hM.trans hm (by decide) (by decide)
      have f_a0_X12_14 := hm.1 _ _ _ _ f_a0_X12_14 (by decide)
      have f_a0_X12_12 := hm.1 _ _ _ _ f_a0_X12_12 (by decide)
      have f_a0_X12_11 := hm.1 _ _ _ _ f_a0_X12_11 (by decide)
      have f_a0_X12_1 := hm.1 _ _ _ _ f_a0_X12_1 (by decide)
      have f_a0_X12_8 := hm.1 _ _ _ _ f_a0_X12_8 (by decide)
      have hCL := hCL.sm hm (by decide) (by decide)
      have hRT := hRT.sm hm (by decide) (by decide)
      rw [hQ]
      refine W.widen (k := 0) (n := 0) (Nat.le_refl _) (Nat.le_refl _) ?_
      exact W.zret (v := v52) hx hb hr (nb_i (by omega) (by omega)) (fun t ht hW => ⟨⟨v52, w_6, rfl, ⟨(by omega), (by omega), hw.2.2.2.2, hM, ⟨f0, f1, (by omega), (by omega), (by omega), (by omega), f_a0_X12_14, f_a0_X12_12, (by omega), ⟨fun _ => hRT, fun hz => absurd (by omega) hz⟩⟩⟩, by rw [ht]; exact hw.2.1, va_K.moved hW.alike hw.1, hw.2.2.1⟩, hw.2.2.2.1.F ht⟩) hw.2.2.2.1.2.2 dX12_clauseHere_55
  · simp only [fa_lt, fa_le, fa_eq, li_6] at c_16
    refine lv_iconst (v := 1) hx hb dX12_clauseHere_19 (by decide) ?_
    refine lv_goto (tgt := 24) hx hb dX12_clauseHere_20 (by decide) ?_
    refine lv_istore_n (lv' := [(2, .int 1), (1, .int v1n), (0, .ref a0)]) hx hb dX12_clauseHere_24 rfl hl (by decide) rfl (fun ls hl => ?_)
    refine lv_iload_n hx hb dX12_clauseHere_25 rfl (lv_at hl 0 rfl) ?_
    refine lv_if_eq (tgt := 39) hx hb dX12_clauseHere_26 (by decide) (fun c_26 => absurd c_26 (by decide)) (fun _ => ?_)
    refine lv_aload_n hx hb dX12_clauseHere_29 rfl (lv_at hl 2 rfl) ?_
    refine t_calli (va_runV (As := []) (rest := []) ⟨hx, hb, hml, hown, hts⟩ (t_X12_isChoirWord l dC dI tys κ B w_1 hw.2.2.2.2 a0 k_a0 H.size) (cwV 0 hts (gUV tw_1268 tw_1270 ts_3_4 tw_13 tw_1271) rfl rfl rfl (by decide +kernel) ⟨(Nat.le_of_ble_eq_true rfl), (Nat.le_of_ble_eq_true rfl)⟩) ⟨cPre.blind, t_recv hw (ci := 12) k_a0 rfl rfl, cPre.use hw.2.1 hw.1 hw.2.2.1 hE⟩ rfl rfl hl.1 rfl (lv_room (Nat.le_of_ble_eq_true rfl)) dX12_clauseHere_30 ⟨(Nat.le_of_ble_eq_true rfl), (Nat.le_of_ble_eq_true rfl)⟩) hw hA (fun _ _ h => h.2.2.1) (fun v30 w_7 H locs hp hw => ?_)
    obtain ⟨l_v30, h_v30, _, hm⟩ := hp
    have hM := hM.trans hm (by decide) (by decide)
    have f_a0_X12_14 := hm.1 _ _ _ _ f_a0_X12_14 (by decide)
    have f_a0_X12_12 := hm.1 _ _ _ _ f_a0_X12_12 (by decide)
    have f_a0_X12_11 := hm.1 _ _ _ _ f_a0_X12_11 (by decide)
    have f_a0_X12_1 := hm.1 _ _ _ _ f_a0_X12_1 (by decide)
    have hCL := hCL.sm hm (by decide) (by decide)
    have hRT := hRT.sm hm (by decide) (by decide)
    refine lv_if_ne (tgt := 56) hx hb dX12_clauseHere_33 (by decide) (fun c_33 => ?_) (fun c_33 => ?_)
    · simp only [fa_lt, fa_le, fa_eq, li_0] at c_33
      refine lv_aload_n hx hb dX12_clauseHere_56 rfl (lv_at hl 2 rfl) ?_
      refine t_getk (ci := 12) (C := RX12) (T := TX12) (N := 38) hx hb hts iX12 hown hw rfl 14 (by decide) (hts _ tw_1139) (fun _ h9 => h9) dX12_clauseHere_57 f_a0_X12_14 ?_
      refine lv_iload_n hx hb dX12_clauseHere_60 rfl (lv_at hl 0 rfl) ?_
      refine lv_if_eq (tgt := 69) hx hb dX12_clauseHere_61 (by decide) (fun c_61 => absurd c_61 (by decide)) (fun _ => ?_)
      refine lv_bipush (v := 40) hx hb dX12_clauseHere_64 (by decide) ?_
      refine lv_goto (tgt := 71) hx hb dX12_clauseHere_66 (by decide) ?_
      refine lv_icmp_ne (tgt := 81) hx hb dX12_clauseHere_71 (by decide) (fun c_71 => ?_) (fun c_71 => ?_)
      · simp only [fa_lt, fa_le, fa_eq, li_40] at c_71
        refine lv_aload_n hx hb dX12_clauseHere_81 rfl (lv_at hl 2 rfl) ?_
        refine lv_dup hx hb dX12_clauseHere_82 rfl ?_
        refine t_getk (ci := 12) (C := RX12) (T := TX12) (N := 38) hx hb hts iX12 hown hw rfl 14 (by decide) (hts _ tw_1139) (fun _ h9 => h9) dX12_clauseHere_83 f_a0_X12_14 ?_
        refine lv_iconst (v := 1) hx hb dX12_clauseHere_86 (by decide) ?_
        refine lv_iadd hx hb dX12_clauseHere_87 ?_
        refine lv_topi (fun v87 e_v87 => ?_)
        have e_v87 : v87.toInt = f0.toInt + 1 := ad_i e_v87 rfl li_1 (by omega) (by omega)
        refine t_put (ci := 12) (C := RX12) (T := TX12) (N := 38) (v := .int v87) hx hb hts iX12 tyX12 tyX12_ok nmX12 hown hw k_a0 rfl rfl rfl 14 (by decide) (hts _ tw_1139) (fun _ h9 => h9) rfl (tyX12_ok 14 (by decide)) rfl rfl (okV.int rfl (by omega) (by omega)) dX12_clauseHere_88 (fun w_8 H locs hw u => ?_)
        have hM := hM.up1 u (by decide)
        have f_a0_X12_14 := u.2.2
        have f_a0_X12_12 := u.1 _ _ _ _ f_a0_X12_12 (Or.inr (Or.inr (by decide)))
        have f_a0_X12_11 := u.1 _ _ _ _ f_a0_X12_11 (Or.inr (Or.inr (by decide)))
        have f_a0_X12_1 := u.1 _ _ _ _ f_a0_X12_1 (Or.inr (Or.inr (by decide)))
        have hCL := hCL.sm (Sm.of1 u) (by decide) (by decide)
        have hRT := hRT.sm (Sm.of1 u) (by decide) (by decide)
        refine lv_iload_n hx hb dX12_clauseHere_91 rfl (lv_at hl 0 rfl) ?_
        refine lv_if_eq (tgt := 103) hx hb dX12_clauseHere_92 (by decide) (fun c_92 => absurd c_92 (by decide)) (fun _ => ?_)
        refine lv_aload_n hx hb dX12_clauseHere_95 rfl (lv_at hl 2 rfl) ?_
        refine lv_iload_n hx hb dX12_clauseHere_96 rfl (lv_at hl 1 rfl) ?_
        refine t_calli (va_runV (As := [.int v1n]) (rest := []) ⟨hx, hb, hml, hown, hts⟩ (t_X12_choirLineHere l dC dI tys κ B w_8 hw.2.2.2.2 a0 k_a0 v1n (by omega) (by omega) H.size) (cwV 1 hts (gUV tw_1292 tw_1294 ts_3_8 tw_13 tw_1295) rfl rfl rfl (by decide +kernel) ⟨(Nat.le_of_ble_eq_true rfl), (Nat.le_of_ble_eq_true rfl)⟩) ⟨cPre.blind, t_recv hw (ci := 12) k_a0 rfl rfl, cPre.use hw.2.1 hw.1 hw.2.2.1 hE⟩ rfl rfl hl.1 rfl (lv_room (Nat.le_of_ble_eq_true rfl)) dX12_clauseHere_97 ⟨(Nat.le_of_ble_eq_true rfl), (Nat.le_of_ble_eq_true rfl)⟩) hw hA (fun _ _ h => h.2.2.1) (fun v97 w_9 H locs hp hw => ?_)
        obtain ⟨l_v97, h_v97, _, hm⟩ := hp
        have hM := hM.trans hm (by decide) (by decide)
        have f_a0_X12_14 := hm.1 _ _ _ _ f_a0_X12_14 (by decide)
        have f_a0_X12_12 := hm.1 _ _ _ _ f_a0_X12_12 (by decide)
        have f_a0_X12_11 := hm.1 _ _ _ _ f_a0_X12_11 (by decide)
        have f_a0_X12_1 := hm.1 _ _ _ _ f_a0_X12_1 (by decide)
        have hCL := hCL.sm hm (by decide) (by decide)
        have hRT := hRT.sm hm (by decide) (by decide)
        refine lv_goto (tgt := 107) hx hb dX12_clauseHere_100 (by decide) ?_
        rw [hQ]
        refine W.widen (k := 0) (n := 0) (Nat.le_refl _) (Nat.le_refl _) ?_
        exact W.zret (v := v97) hx hb hr (nb_i (by omega) (by omega)) (fun t ht hW => ⟨⟨v97, w_9, rfl, ⟨(by omega), (by omega), hw.2.2.2.2, hM, ⟨v87, f1, (by omega), (by omega), (by omega), (by omega), f_a0_X12_14, f_a0_X12_12, (by omega), ⟨fun _ => hRT, fun _ => Or.inl ⟨by omega, hRT⟩⟩⟩⟩, by rw [ht]; exact hw.2.1, va_K.moved hW.alike hw.1, hw.2.2.1⟩, hw.2.2.2.1.F ht⟩) hw.2.2.2.1.2.2 dX12_clauseHere_107
      · simp only [fa_lt, fa_le, fa_eq, li_40] at c_71
        refine lv_aload_n hx hb dX12_clauseHere_74 rfl (lv_at hl 2 rfl) ?_
        refine lv_iconst (v := 4) hx hb dX12_clauseHere_75 (by decide) ?_
        refine lv_iload_n hx hb dX12_clauseHere_76 rfl (lv_at hl 1 rfl) ?_
        refine t_calli (va_runV (As := [.int 4, .int v1n]) (rest := []) ⟨hx, hb, hml, hown, hts⟩ (t_X12_fails l dC dI tys κ B w_7 hw.2.2.2.2 a0 k_a0 4 (by decide) (by decide) v1n (by omega) (by omega) H.size) (cwV 2 hts (gUV tw_1288 tw_1290 ts_3_7 tw_13 tw_1291) rfl rfl rfl (by decide +kernel) ⟨(Nat.le_of_ble_eq_true rfl), (Nat.le_of_ble_eq_true rfl)⟩) ⟨cPre.blind, t_recv hw (ci := 12) k_a0 rfl rfl, cPre.use hw.2.1 hw.1 hw.2.2.1 hE⟩ rfl rfl hl.1 rfl (lv_room (Nat.le_of_ble_eq_true rfl)) dX12_clauseHere_77 ⟨(Nat.le_of_ble_eq_true rfl), (Nat.le_of_ble_eq_true rfl)⟩) hw hA (fun _ _ h => h.2.2.1) (fun v77 w_10 H locs hp hw => ?_)
        obtain ⟨l_v77, h_v77, _, hm⟩ := hp
        have hM := hM.trans hm (by decide) (by decide)
        have f_a0_X12_14 := hm.1 _ _ _ _ f_a0_X12_14 (by decide)
        have f_a0_X12_12 := hm.1 _ _ _ _ f_a0_X12_12 (by decide)
        have f_a0_X12_11 := hm.1 _ _ _ _ f_a0_X12_11 (by decide)
        have f_a0_X12_1 := hm.1 _ _ _ _ f_a0_X12_1 (by decide)
        have hCL := hCL.sm hm (by decide) (by decide)
        have hRT := hRT.sm hm (by decide) (by decide)
        rw [hQ]
        refine W.widen (k := 0) (n := 0) (Nat.le_refl _) (Nat.le_refl _) ?_
        exact W.zret (v := v77) hx hb hr (nb_i (by omega) (by omega)) (fun t ht hW => ⟨⟨v77, w_10, rfl, ⟨(by omega), (by omega), hw.2.2.2.2, hM, ⟨f0, f1, (by omega), (by omega), (by omega), (by omega), f_a0_X12_14, f_a0_X12_12, (by omega), ⟨fun _ => hRT, fun hz => absurd (by omega) hz⟩⟩⟩, by rw [ht]; exact hw.2.1, va_K.moved hW.alike hw.1, hw.2.2.1⟩, hw.2.2.2.1.F ht⟩) hw.2.2.2.1.2.2 dX12_clauseHere_80
    · simp only [fa_lt, fa_le, fa_eq, li_0] at c_33
      refine lv_goto (tgt := 49) hx hb dX12_clauseHere_36 (by decide) ?_
      refine lv_aload_n hx hb dX12_clauseHere_49 rfl (lv_at hl 2 rfl) ?_
      refine lv_iconst (v := 0) hx hb dX12_clauseHere_50 (by decide) ?_
      refine lv_iload_n hx hb dX12_clauseHere_51 rfl (lv_at hl 1 rfl) ?_
      refine t_calli (va_runV (As := [.int 0, .int v1n]) (rest := []) ⟨hx, hb, hml, hown, hts⟩ (t_X12_fails l dC dI tys κ B w_7 hw.2.2.2.2 a0 k_a0 0 (by decide) (by decide) v1n (by omega) (by omega) H.size) (cwV 2 hts (gUV tw_1288 tw_1290 ts_3_7 tw_13 tw_1291) rfl rfl rfl (by decide +kernel) ⟨(Nat.le_of_ble_eq_true rfl), (Nat.le_of_ble_eq_true rfl)⟩) ⟨cPre.blind, t_recv hw (ci := 12) k_a0 rfl rfl, cPre.use hw.2.1 hw.1 hw.2.2.1 hE⟩ rfl rfl hl.1 rfl (lv_room (Nat.le_of_ble_eq_true rfl)) dX12_clauseHere_52 ⟨(Nat.le_of_ble_eq_true rfl), (Nat.le_of_ble_eq_true rfl)⟩) hw hA (fun _ _ h => h.2.2.1) (fun v52 w_11 H locs hp hw => ?_)
      obtain ⟨l_v52, h_v52, _, hm⟩ := hp
      have hM := hM.trans hm (by decide) (by decide)
      have f_a0_X12_14 := hm.1 _ _ _ _ f_a0_X12_14 (by decide)
      have f_a0_X12_12 := hm.1 _ _ _ _ f_a0_X12_12 (by decide)
      have f_a0_X12_11 := hm.1 _ _ _ _ f_a0_X12_11 (by decide)
      have f_a0_X12_1 := hm.1 _ _ _ _ f_a0_X12_1 (by decide)
      have hCL := hCL.sm hm (by decide) (by decide)
      have hRT := hRT.sm hm (by decide) (by decide)
      rw [hQ]
      refine W.widen (k := 0) (n := 0) (Nat.le_refl _) (Nat.le_refl _) ?_
      exact W.zret (v := v52) hx hb hr (nb_i (by omega) (by omega)) (fun t ht hW => ⟨⟨v52, w_11, rfl, ⟨(by omega), (by omega), hw.2.2.2.2, hM, ⟨f0, f1, (by omega), (by omega), (by omega), (by omega), f_a0_X12_14, f_a0_X12_12, (by omega), ⟨fun _ => hRT, fun hz => absurd (by omega) hz⟩⟩⟩, by rw [ht]; exact hw.2.1, va_K.moved hW.alike hw.1, hw.2.2.1⟩, hw.2.2.2.1.F ht⟩) hw.2.2.2.1.2.2 dX12_clauseHere_55
