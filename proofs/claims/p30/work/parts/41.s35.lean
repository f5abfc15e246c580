theorem ts_6_2 : Cond.selects "BoyBishopModel" ⟨"BoyBishopModel", "votesFor", "(I)I"⟩ ⟨"BoyBishopModel", "votesFor", "(I)I"⟩ ∈ gT := gT_in (List.mem_append_left _ (List.mem_map.mpr ⟨(⟨"BoyBishopModel", "votesFor", "(I)I"⟩, 38), (List.mem_append_right _ (List.mem_append_right _ (List.mem_append_right _ (List.mem_append_right _ (List.mem_append_right _ (List.mem_append_right _ (List.mem_append_left _ (List.mem_of_getElem? (i := 2) rfl)))))))), rfl⟩)) rfl
theorem ts_6_4 : Cond.selects "BoyBishopModel" ⟨"BoyBishopModel", "wants", "(II)J"⟩ ⟨"BoyBishopModel", "wants", "(II)J"⟩ ∈ gT := gT_in (List.mem_append_left _ (List.mem_map.mpr ⟨(⟨"BoyBishopModel", "wants", "(II)J"⟩, 38), (List.mem_append_right _ (List.mem_append_right _ (List.mem_append_right _ (List.mem_append_right _ (List.mem_append_right _ (List.mem_append_right _ (List.mem_append_left _ (List.mem_of_getElem? (i := 4) rfl)))))))), rfl⟩)) rfl
theorem ts_6_5 : Cond.selects "BoyBishopModel" ⟨"BoyBishopModel", "soundMany", "()I"⟩ ⟨"BoyBishopModel", "soundMany", "()I"⟩ ∈ gT := gT_in (List.mem_append_left _ (List.mem_map.mpr ⟨(⟨"BoyBishopModel", "soundMany", "()I"⟩, 38), (List.mem_append_right _ (List.mem_append_right _ (List.mem_append_right _ (List.mem_append_right _ (List.mem_append_right _ (List.mem_append_right _ (List.mem_append_left _ (List.mem_of_getElem? (i := 5) rfl)))))))), rfl⟩)) rfl
theorem ts_6_6 : Cond.selects "BoyBishopModel" ⟨"BoyBishopModel", "summedBy", "(I)J"⟩ ⟨"BoyBishopModel", "summedBy", "(I)J"⟩ ∈ gT := gT_in (List.mem_append_left _ (List.mem_map.mpr ⟨(⟨"BoyBishopModel", "summedBy", "(I)J"⟩, 38), (List.mem_append_right _ (List.mem_append_right _ (List.mem_append_right _ (List.mem_append_right _ (List.mem_append_right _ (List.mem_append_right _ (List.mem_append_left _ (List.mem_of_getElem? (i := 6) rfl)))))))), rfl⟩)) rfl
theorem ts_6_7 : Cond.selects "BoyBishopModel" ⟨"BoyBishopModel", "reckons", "(III)J"⟩ ⟨"BoyBishopModel", "reckons", "(III)J"⟩ ∈ gT := gT_in (List.mem_append_left _ (List.mem_map.mpr ⟨(⟨"BoyBishopModel", "reckons", "(III)J"⟩, 38), (List.mem_append_right _ (List.mem_append_right _ (List.mem_append_right _ (List.mem_append_right _ (List.mem_append_right _ (List.mem_append_right _ (List.mem_append_left _ (List.mem_of_getElem? (i := 7) rfl)))))))), rfl⟩)) rfl
theorem ts_6_8 : Cond.selects "BoyBishopModel" ⟨"BoyBishopModel", "push", "(J)V"⟩ ⟨"BoyBishopModel", "push", "(J)V"⟩ ∈ gT := gT_in (List.mem_append_left _ (List.mem_map.mpr ⟨(⟨"BoyBishopModel", "push", "(J)V"⟩, 38), (List.mem_append_right _ (List.mem_append_right _ (List.mem_append_right _ (List.mem_append_right _ (List.mem_append_right _ (List.mem_append_right _ (List.mem_append_left _ (List.mem_of_getElem? (i := 8) rfl)))))))), rfl⟩)) rfl
theorem ts_6_9 : Cond.selects "BoyBishopModel" ⟨"BoyBishopModel", "pop", "()J"⟩ ⟨"BoyBishopModel", "pop", "()J"⟩ ∈ gT := gT_in (List.mem_append_left _ (List.mem_map.mpr ⟨(⟨"BoyBishopModel", "pop", "()J"⟩, 38), (List.mem_append_right _ (List.mem_append_right _ (List.mem_append_right _ (List.mem_append_right _ (List.mem_append_right _ (List.mem_append_right _ (List.mem_append_left _ (List.mem_of_getElem? (i := 9) rfl)))))))), rfl⟩)) rfl
theorem tw_1128 : (Jvm.Cond.fieldLink "BoyBishopModel" (13 : Nat) "BoyBishopModel" "sign" "[I") ∈ gT := gT_in (List.mem_append_right _ (List.mem_append_right _ (List.mem_append_right _ (List.mem_append_right _ (List.mem_append_right _ (List.mem_append_left _ (List.mem_of_getElem? (i := 168) rfl))))))) rfl
theorem tw_1130 : (Jvm.Cond.fieldLink "BoyBishopModel" (20 : Nat) "BoyBishopModel" "clause" "[I") ∈ gT := gT_in (List.mem_append_right _ (List.mem_append_right _ (List.mem_append_right _ (List.mem_append_right _ (List.mem_append_right _ (List.mem_append_left _ (List.mem_of_getElem? (i := 170) rfl))))))) rfl
theorem tw_1131 : (Jvm.Cond.fieldLink "BoyBishopModel" (23 : Nat) "BoyBishopModel" "clauses" "[I") ∈ gT := gT_in (List.mem_append_right _ (List.mem_append_right _ (List.mem_append_right _ (List.mem_append_right _ (List.mem_append_right _ (List.mem_append_left _ (List.mem_of_getElem? (i := 171) rfl))))))) rfl
theorem tw_1142 : (Jvm.Cond.fieldLink "BoyBishopModel" (32 : Nat) "BoyBishopModel" "stack" "[J") ∈ gT := gT_in (List.mem_append_right _ (List.mem_append_right _ (List.mem_append_right _ (List.mem_append_right _ (List.mem_append_right _ (List.mem_append_left _ (List.mem_of_getElem? (i := 182) rfl))))))) rfl
theorem tw_1143 : (Jvm.Cond.fieldLink "BoyBishopModel" (286 : Nat) "BoyBishopModel" "top" "I") ∈ gT := gT_in (List.mem_append_right _ (List.mem_append_right _ (List.mem_append_right _ (List.mem_append_right _ (List.mem_append_right _ (List.mem_append_left _ (List.mem_of_getElem? (i := 183) rfl))))))) rfl
theorem tw_1144 : (Jvm.Cond.fieldLink "BoyBishopModel" (36 : Nat) "BoyBishopModel" "word" "[J") ∈ gT := gT_in (List.mem_append_right _ (List.mem_append_right _ (List.mem_append_right _ (List.mem_append_right _ (List.mem_append_right _ (List.mem_append_left _ (List.mem_of_getElem? (i := 184) rfl))))))) rfl
theorem tw_1513 : (Jvm.Cond.methodLink "BoyBishopModel" (343 : Nat) ({ cls := "BoyBishopModel", name := "votesFor", desc := "(I)I" } : Jvm.MethodName)) ∈ gT := gT_in (List.mem_append_right _ (List.mem_append_right _ (List.mem_append_right _ (List.mem_append_right _ (List.mem_append_right _ (List.mem_append_right _ (List.mem_append_right _ (List.mem_append_left _ (List.mem_of_getElem? (i := 73) rfl))))))))) rfl
theorem tw_1515 : (Jvm.Cond.instanceMethod ({ cls := "BoyBishopModel", name := "votesFor", desc := "(I)I" } : Jvm.MethodName)) ∈ gT := gT_in (List.mem_append_right _ (List.mem_append_right _ (List.mem_append_right _ (List.mem_append_right _ (List.mem_append_right _ (List.mem_append_right _ (List.mem_append_right _ (List.mem_append_left _ (List.mem_of_getElem? (i := 75) rfl))))))))) rfl
theorem tw_1516 : (Jvm.Cond.code ({ cls := "BoyBishopModel", name := "votesFor", desc := "(I)I" } : Jvm.MethodName) prog_14_method_71_code (8 : Nat) (Option.some Jvm.ClassFile.FieldType.int)) ∈ gT := gT_in (List.mem_append_right _ (List.mem_append_right _ (List.mem_append_right _ (List.mem_append_right _ (List.mem_append_right _ (List.mem_append_right _ (List.mem_append_right _ (List.mem_append_left _ (List.mem_of_getElem? (i := 76) rfl))))))))) rfl
theorem tw_1521 : (Jvm.Cond.methodLink "BoyBishopModel" (339 : Nat) ({ cls := "BoyBishopModel", name := "wants", desc := "(II)J" } : Jvm.MethodName)) ∈ gT := gT_in (List.mem_append_right _ (List.mem_append_right _ (List.mem_append_right _ (List.mem_append_right _ (List.mem_append_right _ (List.mem_append_right _ (List.mem_append_right _ (List.mem_append_left _ (List.mem_of_getElem? (i := 81) rfl))))))))) rfl
theorem tw_1523 : (Jvm.Cond.instanceMethod ({ cls := "BoyBishopModel", name := "wants", desc := "(II)J" } : Jvm.MethodName)) ∈ gT := gT_in (List.mem_append_right _ (List.mem_append_right _ (List.mem_append_right _ (List.mem_append_right _ (List.mem_append_right _ (List.mem_append_right _ (List.mem_append_right _ (List.mem_append_left _ (List.mem_of_getElem? (i := 83) rfl))))))))) rfl
theorem tw_1524 : (Jvm.Cond.code ({ cls := "BoyBishopModel", name := "wants", desc := "(II)J" } : Jvm.MethodName) prog_14_method_70_code (4 : Nat) (Option.some Jvm.ClassFile.FieldType.long)) ∈ gT := gT_in (List.mem_append_right _ (List.mem_append_right _ (List.mem_append_right _ (List.mem_append_right _ (List.mem_append_right _ (List.mem_append_right _ (List.mem_append_right _ (List.mem_append_left _ (List.mem_of_getElem? (i := 84) rfl))))))))) rfl
theorem tw_1525 : (Jvm.Cond.methodLink "BoyBishopModel" (332 : Nat) ({ cls := "BoyBishopModel", name := "soundMany", desc := "()I" } : Jvm.MethodName)) ∈ gT := gT_in (List.mem_append_right _ (List.mem_append_right _ (List.mem_append_right _ (List.mem_append_right _ (List.mem_append_right _ (List.mem_append_right _ (List.mem_append_right _ (List.mem_append_left _ (List.mem_of_getElem? (i := 85) rfl))))))))) rfl
theorem tw_1527 : (Jvm.Cond.instanceMethod ({ cls := "BoyBishopModel", name := "soundMany", desc := "()I" } : Jvm.MethodName)) ∈ gT := gT_in (List.mem_append_right _ (List.mem_append_right _ (List.mem_append_right _ (List.mem_append_right _ (List.mem_append_right _ (List.mem_append_right _ (List.mem_append_right _ (List.mem_append_left _ (List.mem_of_getElem? (i := 87) rfl))))))))) rfl
theorem tw_1528 : (Jvm.Cond.code ({ cls := "BoyBishopModel", name := "soundMany", desc := "()I" } : Jvm.MethodName) prog_14_method_61_code (3 : Nat) (Option.some Jvm.ClassFile.FieldType.int)) ∈ gT := gT_in (List.mem_append_right _ (List.mem_append_right _ (List.mem_append_right _ (List.mem_append_right _ (List.mem_append_right _ (List.mem_append_right _ (List.mem_append_right _ (List.mem_append_left _ (List.mem_of_getElem? (i := 88) rfl))))))))) rfl
theorem tw_1529 : (Jvm.Cond.methodLink "BoyBishopModel" (335 : Nat) ({ cls := "BoyBishopModel", name := "summedBy", desc := "(I)J" } : Jvm.MethodName)) ∈ gT := gT_in (List.mem_append_right _ (List.mem_append_right _ (List.mem_append_right _ (List.mem_append_right _ (List.mem_append_right _ (List.mem_append_right _ (List.mem_append_right _ (List.mem_append_left _ (List.mem_of_getElem? (i := 89) rfl))))))))) rfl
theorem tw_1531 : (Jvm.Cond.instanceMethod ({ cls := "BoyBishopModel", name := "summedBy", desc := "(I)J" } : Jvm.MethodName)) ∈ gT := gT_in (List.mem_append_right _ (List.mem_append_right _ (List.mem_append_right _ (List.mem_append_right _ (List.mem_append_right _ (List.mem_append_right _ (List.mem_append_right _ (List.mem_append_left _ (List.mem_of_getElem? (i := 91) rfl))))))))) rfl
theorem tw_1532 : (Jvm.Cond.code ({ cls := "BoyBishopModel", name := "summedBy", desc := "(I)J" } : Jvm.MethodName) prog_14_method_69_code (4 : Nat) (Option.some Jvm.ClassFile.FieldType.long)) ∈ gT := gT_in (List.mem_append_right _ (List.mem_append_right _ (List.mem_append_right _ (List.mem_append_right _ (List.mem_append_right _ (List.mem_append_right _ (List.mem_append_right _ (List.mem_append_left _ (List.mem_of_getElem? (i := 92) rfl))))))))) rfl
theorem tw_1533 : (Jvm.Cond.methodLink "BoyBishopModel" (328 : Nat) ({ cls := "BoyBishopModel", name := "reckons", desc := "(III)J" } : Jvm.MethodName)) ∈ gT := gT_in (List.mem_append_right _ (List.mem_append_right _ (List.mem_append_right _ (List.mem_append_right _ (List.mem_append_right _ (List.mem_append_right _ (List.mem_append_right _ (List.mem_append_left _ (List.mem_of_getElem? (i := 93) rfl))))))))) rfl
theorem tw_1535 : (Jvm.Cond.instanceMethod ({ cls := "BoyBishopModel", name := "reckons", desc := "(III)J" } : Jvm.MethodName)) ∈ gT := gT_in (List.mem_append_right _ (List.mem_append_right _ (List.mem_append_right _ (List.mem_append_right _ (List.mem_append_right _ (List.mem_append_right _ (List.mem_append_right _ (List.mem_append_left _ (List.mem_of_getElem? (i := 95) rfl))))))))) rfl
theorem tw_1536 : (Jvm.Cond.code ({ cls := "BoyBishopModel", name := "reckons", desc := "(III)J" } : Jvm.MethodName) prog_14_method_50_code (11 : Nat) (Option.some Jvm.ClassFile.FieldType.long)) ∈ gT := gT_in (List.mem_append_right _ (List.mem_append_right _ (List.mem_append_right _ (List.mem_append_right _ (List.mem_append_right _ (List.mem_append_right _ (List.mem_append_right _ (List.mem_append_left _ (List.mem_of_getElem? (i := 96) rfl))))))))) rfl
theorem tw_1537 : (Jvm.Cond.methodLink "BoyBishopModel" (289 : Nat) ({ cls := "BoyBishopModel", name := "push", desc := "(J)V" } : Jvm.MethodName)) ∈ gT := gT_in (List.mem_append_right _ (List.mem_append_right _ (List.mem_append_right _ (List.mem_append_right _ (List.mem_append_right _ (List.mem_append_right _ (List.mem_append_right _ (List.mem_append_left _ (List.mem_of_getElem? (i := 97) rfl))))))))) rfl
theorem tw_1539 : (Jvm.Cond.instanceMethod ({ cls := "BoyBishopModel", name := "push", desc := "(J)V" } : Jvm.MethodName)) ∈ gT := gT_in (List.mem_append_right _ (List.mem_append_right _ (List.mem_append_right _ (List.mem_append_right _ (List.mem_append_right _ (List.mem_append_right _ (List.mem_append_right _ (List.mem_append_left _ (List.mem_of_getElem? (i := 99) rfl))))))))) rfl
theorem tw_1540 : (Jvm.Cond.code ({ cls := "BoyBishopModel", name := "push", desc := "(J)V" } : Jvm.MethodName) prog_14_method_47_code (3 : Nat) (Option.none : Option Jvm.ClassFile.FieldType)) ∈ gT := gT_in (List.mem_append_right _ (List.mem_append_right _ (List.mem_append_right _ (List.mem_append_right _ (List.mem_append_right _ (List.mem_append_right _ (List.mem_append_right _ (List.mem_append_left _ (List.mem_of_getElem? (i := 100) rfl))))))))) rfl
theorem tw_1541 : (Jvm.Cond.methodLink "BoyBishopModel" (293 : Nat) ({ cls := "BoyBishopModel", name := "pop", desc := "()J" } : Jvm.MethodName)) ∈ gT := gT_in (List.mem_append_right _ (List.mem_append_right _ (List.mem_append_right _ (List.mem_append_right _ (List.mem_append_right _ (List.mem_append_right _ (List.mem_append_right _ (List.mem_append_left _ (List.mem_of_getElem? (i := 101) rfl))))))))) rfl
theorem tw_1543 : (Jvm.Cond.instanceMethod ({ cls := "BoyBishopModel", name := "pop", desc := "()J" } : Jvm.MethodName)) ∈ gT := gT_in (List.mem_append_right _ (List.mem_append_right _ (List.mem_append_right _ (List.mem_append_right _ (List.mem_append_right _ (List.mem_append_right _ (List.mem_append_right _ (List.mem_append_left _ (List.mem_of_getElem? (i := 103) rfl))))))))) rfl
theorem tw_1544 : (Jvm.Cond.code ({ cls := "BoyBishopModel", name := "pop", desc := "()J" } : Jvm.MethodName) prog_14_method_48_code (1 : Nat) (Option.some Jvm.ClassFile.FieldType.long)) ∈ gT := gT_in (List.mem_append_right _ (List.mem_append_right _ (List.mem_append_right _ (List.mem_append_right _ (List.mem_append_right _ (List.mem_append_right _ (List.mem_append_right _ (List.mem_append_left _ (List.mem_of_getElem? (i := 104) rfl))))))))) rfl
theorem tw_1545 : (Jvm.Cond.methodLink "BoyBishopModel" (297 : Nat) ({ cls := "BoyBishopModel", name := "one", desc := "(IJJ)J" } : Jvm.MethodName)) ∈ gT := gT_in (List.mem_append_right _ (List.mem_append_right _ (List.mem_append_right _ (List.mem_append_right _ (List.mem_append_right _ (List.mem_append_right _ (List.mem_append_right _ (List.mem_append_left _ (List.mem_of_getElem? (i := 105) rfl))))))))) rfl
theorem tw_1546 : (Jvm.Cond.static ({ cls := "BoyBishopModel", name := "one", desc := "(IJJ)J" } : Jvm.MethodName)) ∈ gT := gT_in (List.mem_append_right _ (List.mem_append_right _ (List.mem_append_right _ (List.mem_append_right _ (List.mem_append_right _ (List.mem_append_right _ (List.mem_append_right _ (List.mem_append_left _ (List.mem_of_getElem? (i := 106) rfl))))))))) rfl
theorem tw_1547 : (Jvm.Cond.code ({ cls := "BoyBishopModel", name := "one", desc := "(IJJ)J" } : Jvm.MethodName) prog_14_method_49_code (5 : Nat) (Option.some Jvm.ClassFile.FieldType.long)) ∈ gT := gT_in (List.mem_append_right _ (List.mem_append_right _ (List.mem_append_right _ (List.mem_append_right _ (List.mem_append_right _ (List.mem_append_right _ (List.mem_append_right _ (List.mem_append_left _ (List.mem_of_getElem? (i := 107) rfl))))))))) rfl
theorem dX12_fillsVotes_0 : decode cX12_fillsVotes 0 = .ok (.iconst 0, 1) := by decide +kernel
theorem dX12_fillsVotes_1 : decode cX12_fillsVotes 1 = .ok (.istore_n 1, 1) := by decide +kernel
theorem dX12_fillsVotes_2 : decode cX12_fillsVotes 2 = .ok (.iload_n 1, 1) := by decide +kernel
theorem dX12_fillsVotes_3 : decode cX12_fillsVotes 3 = .ok (.aload_n 0, 1) := by decide +kernel
theorem dX12_fillsVotes_4 : decode cX12_fillsVotes 4 = .ok (.getfield 39, 3) := by decide +kernel
theorem dX12_fillsVotes_7 : decode cX12_fillsVotes 7 = .ok (.iconst 3, 1) := by decide +kernel
theorem dX12_fillsVotes_8 : decode cX12_fillsVotes 8 = .ok (.iaload, 1) := by decide +kernel
theorem dX12_fillsVotes_9 : decode cX12_fillsVotes 9 = .ok (.if_icmp .ge 20, 3) := by decide +kernel
theorem dX12_fillsVotes_12 : decode cX12_fillsVotes 12 = .ok (.aload_n 0, 1) := by decide +kernel
theorem dX12_fillsVotes_13 : decode cX12_fillsVotes 13 = .ok (.getfield 46, 3) := by decide +kernel
theorem dX12_fillsVotes_16 : decode cX12_fillsVotes 16 = .ok (.iload_n 1, 1) := by decide +kernel
theorem dX12_fillsVotes_17 : decode cX12_fillsVotes 17 = .ok (.aload_n 0, 1) := by decide +kernel
theorem dX12_fillsVotes_18 : decode cX12_fillsVotes 18 = .ok (.iload_n 1, 1) := by decide +kernel
theorem dX12_fillsVotes_19 : decode cX12_fillsVotes 19 = .ok (.invokevirtual 343, 3) := by decide +kernel
theorem dX12_fillsVotes_22 : decode cX12_fillsVotes 22 = .ok (.iastore, 1) := by decide +kernel
theorem dX12_fillsVotes_23 : decode cX12_fillsVotes 23 = .ok (.iinc 1 1, 3) := by decide +kernel
theorem dX12_fillsVotes_26 : decode cX12_fillsVotes 26 = .ok (.goto (-24), 3) := by decide +kernel
theorem dX12_fillsVotes_29 : decode cX12_fillsVotes 29 = .ok (.return_, 1) := by decide +kernel
theorem dX12_pop_0 : decode cX12_pop 0 = .ok (.aload_n 0, 1) := by decide +kernel
theorem dX12_pop_1 : decode cX12_pop 1 = .ok (.dup, 1) := by decide +kernel
theorem dX12_pop_2 : decode cX12_pop 2 = .ok (.getfield 286, 3) := by decide +kernel
theorem dX12_pop_5 : decode cX12_pop 5 = .ok (.iconst 1, 1) := by decide +kernel
theorem dX12_pop_6 : decode cX12_pop 6 = .ok (.isub, 1) := by decide +kernel
theorem dX12_pop_7 : decode cX12_pop 7 = .ok (.putfield 286, 3) := by decide +kernel
theorem dX12_pop_10 : decode cX12_pop 10 = .ok (.aload_n 0, 1) := by decide +kernel
theorem dX12_pop_11 : decode cX12_pop 11 = .ok (.getfield 32, 3) := by decide +kernel
theorem dX12_pop_14 : decode cX12_pop 14 = .ok (.aload_n 0, 1) := by decide +kernel
theorem dX12_pop_15 : decode cX12_pop 15 = .ok (.getfield 286, 3) := by decide +kernel
theorem dX12_pop_18 : decode cX12_pop 18 = .ok (.laload, 1) := by decide +kernel
theorem dX12_pop_19 : decode cX12_pop 19 = .ok (.lreturn, 1) := by decide +kernel
theorem dX12_push_0 : decode cX12_push 0 = .ok (.aload_n 0, 1) := by decide +kernel
theorem dX12_push_1 : decode cX12_push 1 = .ok (.getfield 32, 3) := by decide +kernel
theorem dX12_push_4 : decode cX12_push 4 = .ok (.aload_n 0, 1) := by decide +kernel
theorem dX12_push_5 : decode cX12_push 5 = .ok (.getfield 286, 3) := by decide +kernel
theorem dX12_push_8 : decode cX12_push 8 = .ok (.lload_n 1, 1) := by decide +kernel
theorem dX12_push_9 : decode cX12_push 9 = .ok (.lastore, 1) := by decide +kernel
theorem dX12_push_10 : decode cX12_push 10 = .ok (.aload_n 0, 1) := by decide +kernel
theorem dX12_push_11 : decode cX12_push 11 = .ok (.dup, 1) := by decide +kernel
theorem dX12_push_12 : decode cX12_push 12 = .ok (.getfield 286, 3) := by decide +kernel
theorem dX12_push_15 : decode cX12_push 15 = .ok (.iconst 1, 1) := by decide +kernel
theorem dX12_push_16 : decode cX12_push 16 = .ok (.iadd, 1) := by decide +kernel
theorem dX12_push_17 : decode cX12_push 17 = .ok (.putfield 286, 3) := by decide +kernel
theorem dX12_push_20 : decode cX12_push 20 = .ok (.return_, 1) := by decide +kernel
theorem dX12_reckons_0 : decode cX12_reckons 0 = .ok (.aload_n 0, 1) := by decide +kernel
theorem dX12_reckons_1 : decode cX12_reckons 1 = .ok (.iconst 0, 1) := by decide +kernel
theorem dX12_reckons_2 : decode cX12_reckons 2 = .ok (.putfield 286, 3) := by decide +kernel
theorem dX12_reckons_5 : decode cX12_reckons 5 = .ok (.iload_n 2, 1) := by decide +kernel
theorem dX12_reckons_6 : decode cX12_reckons 6 = .ok (.istore 4, 2) := by decide +kernel
theorem dX12_reckons_8 : decode cX12_reckons 8 = .ok (.iload 4, 2) := by decide +kernel
theorem dX12_reckons_10 : decode cX12_reckons 10 = .ok (.iload_n 3, 1) := by decide +kernel
theorem dX12_reckons_11 : decode cX12_reckons 11 = .ok (.if_icmp .ge 124, 3) := by decide +kernel
theorem dX12_reckons_14 : decode cX12_reckons 14 = .ok (.aload_n 0, 1) := by decide +kernel
theorem dX12_reckons_15 : decode cX12_reckons 15 = .ok (.getfield 13, 3) := by decide +kernel
theorem dX12_reckons_18 : decode cX12_reckons 18 = .ok (.sipush 400, 3) := by decide +kernel
theorem dX12_reckons_21 : decode cX12_reckons 21 = .ok (.iload_n 1, 1) := by decide +kernel
theorem dX12_reckons_22 : decode cX12_reckons 22 = .ok (.imul, 1) := by decide +kernel
theorem dX12_reckons_23 : decode cX12_reckons 23 = .ok (.iload 4, 2) := by decide +kernel
theorem dX12_reckons_25 : decode cX12_reckons 25 = .ok (.iadd, 1) := by decide +kernel
theorem dX12_reckons_26 : decode cX12_reckons 26 = .ok (.iaload, 1) := by decide +kernel
theorem dX12_reckons_27 : decode cX12_reckons 27 = .ok (.bipush 15, 2) := by decide +kernel
theorem dX12_reckons_29 : decode cX12_reckons 29 = .ok (.iand, 1) := by decide +kernel
theorem dX12_reckons_30 : decode cX12_reckons 30 = .ok (.istore 5, 2) := by decide +kernel
theorem dX12_reckons_32 : decode cX12_reckons 32 = .ok (.aload_n 0, 1) := by decide +kernel
theorem dX12_reckons_33 : decode cX12_reckons 33 = .ok (.getfield 13, 3) := by decide +kernel
theorem dX12_reckons_36 : decode cX12_reckons 36 = .ok (.sipush 400, 3) := by decide +kernel
theorem dX12_reckons_39 : decode cX12_reckons 39 = .ok (.iload_n 1, 1) := by decide +kernel
theorem dX12_reckons_40 : decode cX12_reckons 40 = .ok (.imul, 1) := by decide +kernel
theorem dX12_reckons_41 : decode cX12_reckons 41 = .ok (.iload 4, 2) := by decide +kernel
theorem dX12_reckons_43 : decode cX12_reckons 43 = .ok (.iadd, 1) := by decide +kernel
theorem dX12_reckons_44 : decode cX12_reckons 44 = .ok (.iaload, 1) := by decide +kernel
theorem dX12_reckons_45 : decode cX12_reckons 45 = .ok (.iconst 4, 1) := by decide +kernel
theorem dX12_reckons_46 : decode cX12_reckons 46 = .ok (.ishr, 1) := by decide +kernel
theorem dX12_reckons_47 : decode cX12_reckons 47 = .ok (.istore 6, 2) := by decide +kernel
theorem dX12_reckons_49 : decode cX12_reckons 49 = .ok (.iload 5, 2) := by decide +kernel
theorem dX12_reckons_51 : decode cX12_reckons 51 = .ok (.ifCond .ne 13, 3) := by decide +kernel
theorem dX12_reckons_54 : decode cX12_reckons 54 = .ok (.aload_n 0, 1) := by decide +kernel
theorem dX12_reckons_55 : decode cX12_reckons 55 = .ok (.iload 6, 2) := by decide +kernel
theorem dX12_reckons_57 : decode cX12_reckons 57 = .ok (.i2l, 1) := by decide +kernel
theorem dX12_reckons_58 : decode cX12_reckons 58 = .ok (.invokevirtual 289, 3) := by decide +kernel
theorem dX12_reckons_61 : decode cX12_reckons 61 = .ok (.goto 68, 3) := by decide +kernel
theorem dX12_reckons_64 : decode cX12_reckons 64 = .ok (.iload 5, 2) := by decide +kernel
theorem dX12_reckons_66 : decode cX12_reckons 66 = .ok (.iconst 1, 1) := by decide +kernel
theorem dX12_reckons_67 : decode cX12_reckons 67 = .ok (.if_icmp .ne 17, 3) := by decide +kernel
theorem dX12_reckons_70 : decode cX12_reckons 70 = .ok (.aload_n 0, 1) := by decide +kernel
theorem dX12_reckons_71 : decode cX12_reckons 71 = .ok (.aload_n 0, 1) := by decide +kernel
theorem dX12_reckons_72 : decode cX12_reckons 72 = .ok (.getfield 36, 3) := by decide +kernel
theorem dX12_reckons_75 : decode cX12_reckons 75 = .ok (.iload 6, 2) := by decide +kernel
theorem dX12_reckons_77 : decode cX12_reckons 77 = .ok (.laload, 1) := by decide +kernel
theorem dX12_reckons_78 : decode cX12_reckons 78 = .ok (.invokevirtual 289, 3) := by decide +kernel
theorem dX12_reckons_81 : decode cX12_reckons 81 = .ok (.goto 48, 3) := by decide +kernel
theorem dX12_reckons_84 : decode cX12_reckons 84 = .ok (.iload 5, 2) := by decide +kernel
theorem dX12_reckons_86 : decode cX12_reckons 86 = .ok (.bipush 11, 2) := by decide +kernel
theorem dX12_reckons_88 : decode cX12_reckons 88 = .ok (.if_icmp .ne 16, 3) := by decide +kernel
theorem dX12_reckons_91 : decode cX12_reckons 91 = .ok (.aload_n 0, 1) := by decide +kernel
theorem dX12_reckons_92 : decode cX12_reckons 92 = .ok (.lconst 1, 1) := by decide +kernel
theorem dX12_reckons_93 : decode cX12_reckons 93 = .ok (.aload_n 0, 1) := by decide +kernel
theorem dX12_reckons_94 : decode cX12_reckons 94 = .ok (.invokevirtual 293, 3) := by decide +kernel
theorem dX12_reckons_97 : decode cX12_reckons 97 = .ok (.lsub, 1) := by decide +kernel
theorem dX12_reckons_98 : decode cX12_reckons 98 = .ok (.invokevirtual 289, 3) := by decide +kernel
theorem dX12_reckons_101 : decode cX12_reckons 101 = .ok (.goto 28, 3) := by decide +kernel
theorem dX12_reckons_104 : decode cX12_reckons 104 = .ok (.aload_n 0, 1) := by decide +kernel
theorem dX12_reckons_105 : decode cX12_reckons 105 = .ok (.invokevirtual 293, 3) := by decide +kernel
theorem dX12_reckons_108 : decode cX12_reckons 108 = .ok (.lstore 7, 2) := by decide +kernel
theorem dX12_reckons_110 : decode cX12_reckons 110 = .ok (.aload_n 0, 1) := by decide +kernel
theorem dX12_reckons_111 : decode cX12_reckons 111 = .ok (.invokevirtual 293, 3) := by decide +kernel
theorem dX12_reckons_114 : decode cX12_reckons 114 = .ok (.lstore 9, 2) := by decide +kernel
theorem dX12_reckons_116 : decode cX12_reckons 116 = .ok (.aload_n 0, 1) := by decide +kernel
theorem dX12_reckons_117 : decode cX12_reckons 117 = .ok (.iload 5, 2) := by decide +kernel
theorem dX12_reckons_119 : decode cX12_reckons 119 = .ok (.lload 9, 2) := by decide +kernel
theorem dX12_reckons_121 : decode cX12_reckons 121 = .ok (.lload 7, 2) := by decide +kernel
theorem dX12_reckons_123 : decode cX12_reckons 123 = .ok (.invokestatic 297, 3) := by decide +kernel
theorem dX12_reckons_126 : decode cX12_reckons 126 = .ok (.invokevirtual 289, 3) := by decide +kernel
theorem dX12_reckons_129 : decode cX12_reckons 129 = .ok (.iinc 4 1, 3) := by decide +kernel
theorem dX12_reckons_132 : decode cX12_reckons 132 = .ok (.goto (-124), 3) := by decide +kernel
theorem dX12_reckons_135 : decode cX12_reckons 135 = .ok (.aload_n 0, 1) := by decide +kernel
theorem dX12_reckons_136 : decode cX12_reckons 136 = .ok (.invokevirtual 293, 3) := by decide +kernel
theorem dX12_reckons_139 : decode cX12_reckons 139 = .ok (.lreturn, 1) := by decide +kernel
theorem dX12_summedBy_0 : decode cX12_summedBy 0 = .ok (.iconst 0, 1) := by decide +kernel
theorem dX12_summedBy_1 : decode cX12_summedBy 1 = .ok (.istore_n 2, 1) := by decide +kernel
theorem dX12_summedBy_2 : decode cX12_summedBy 2 = .ok (.iload_n 2, 1) := by decide +kernel
theorem dX12_summedBy_3 : decode cX12_summedBy 3 = .ok (.aload_n 0, 1) := by decide +kernel
theorem dX12_summedBy_4 : decode cX12_summedBy 4 = .ok (.getfield 23, 3) := by decide +kernel
theorem dX12_summedBy_7 : decode cX12_summedBy 7 = .ok (.iload_n 1, 1) := by decide +kernel
theorem dX12_summedBy_8 : decode cX12_summedBy 8 = .ok (.iaload, 1) := by decide +kernel
theorem dX12_summedBy_9 : decode cX12_summedBy 9 = .ok (.if_icmp .ge 75, 3) := by decide +kernel
theorem dX12_summedBy_12 : decode cX12_summedBy 12 = .ok (.bipush 48, 2) := by decide +kernel
theorem dX12_summedBy_14 : decode cX12_summedBy 14 = .ok (.iload_n 1, 1) := by decide +kernel
theorem dX12_summedBy_15 : decode cX12_summedBy 15 = .ok (.imul, 1) := by decide +kernel
theorem dX12_summedBy_16 : decode cX12_summedBy 16 = .ok (.iconst 4, 1) := by decide +kernel
theorem dX12_summedBy_17 : decode cX12_summedBy 17 = .ok (.iload_n 2, 1) := by decide +kernel
theorem dX12_summedBy_18 : decode cX12_summedBy 18 = .ok (.imul, 1) := by decide +kernel
theorem dX12_summedBy_19 : decode cX12_summedBy 19 = .ok (.iadd, 1) := by decide +kernel
theorem dX12_summedBy_20 : decode cX12_summedBy 20 = .ok (.istore_n 3, 1) := by decide +kernel
theorem dX12_summedBy_21 : decode cX12_summedBy 21 = .ok (.aload_n 0, 1) := by decide +kernel
theorem dX12_summedBy_22 : decode cX12_summedBy 22 = .ok (.getfield 20, 3) := by decide +kernel
theorem dX12_summedBy_25 : decode cX12_summedBy 25 = .ok (.iload_n 3, 1) := by decide +kernel
theorem dX12_summedBy_26 : decode cX12_summedBy 26 = .ok (.iconst 2, 1) := by decide +kernel
theorem dX12_summedBy_27 : decode cX12_summedBy 27 = .ok (.iadd, 1) := by decide +kernel
theorem dX12_summedBy_28 : decode cX12_summedBy 28 = .ok (.iaload, 1) := by decide +kernel
theorem dX12_summedBy_29 : decode cX12_summedBy 29 = .ok (.ifCond .lt 29, 3) := by decide +kernel
theorem dX12_summedBy_32 : decode cX12_summedBy 32 = .ok (.aload_n 0, 1) := by decide +kernel
theorem dX12_summedBy_33 : decode cX12_summedBy 33 = .ok (.iload_n 1, 1) := by decide +kernel
theorem dX12_summedBy_34 : decode cX12_summedBy 34 = .ok (.aload_n 0, 1) := by decide +kernel
theorem dX12_summedBy_35 : decode cX12_summedBy 35 = .ok (.getfield 20, 3) := by decide +kernel
theorem dX12_summedBy_38 : decode cX12_summedBy 38 = .ok (.iload_n 3, 1) := by decide +kernel
theorem dX12_summedBy_39 : decode cX12_summedBy 39 = .ok (.iconst 2, 1) := by decide +kernel
theorem dX12_summedBy_40 : decode cX12_summedBy 40 = .ok (.iadd, 1) := by decide +kernel
theorem dX12_summedBy_41 : decode cX12_summedBy 41 = .ok (.iaload, 1) := by decide +kernel
theorem dX12_summedBy_42 : decode cX12_summedBy 42 = .ok (.aload_n 0, 1) := by decide +kernel
theorem dX12_summedBy_43 : decode cX12_summedBy 43 = .ok (.getfield 20, 3) := by decide +kernel
theorem dX12_summedBy_46 : decode cX12_summedBy 46 = .ok (.iload_n 3, 1) := by decide +kernel
theorem dX12_summedBy_47 : decode cX12_summedBy 47 = .ok (.iconst 3, 1) := by decide +kernel
theorem dX12_summedBy_48 : decode cX12_summedBy 48 = .ok (.iadd, 1) := by decide +kernel
theorem dX12_summedBy_49 : decode cX12_summedBy 49 = .ok (.iaload, 1) := by decide +kernel
theorem dX12_summedBy_50 : decode cX12_summedBy 50 = .ok (.invokevirtual 328, 3) := by decide +kernel
theorem dX12_summedBy_53 : decode cX12_summedBy 53 = .ok (.lconst 1, 1) := by decide +kernel
theorem dX12_summedBy_54 : decode cX12_summedBy 54 = .ok (.lcmp, 1) := by decide +kernel
theorem dX12_summedBy_55 : decode cX12_summedBy 55 = .ok (.ifCond .ne 23, 3) := by decide +kernel
theorem dX12_summedBy_58 : decode cX12_summedBy 58 = .ok (.aload_n 0, 1) := by decide +kernel
theorem dX12_summedBy_59 : decode cX12_summedBy 59 = .ok (.iload_n 1, 1) := by decide +kernel
theorem dX12_summedBy_60 : decode cX12_summedBy 60 = .ok (.aload_n 0, 1) := by decide +kernel
theorem dX12_summedBy_61 : decode cX12_summedBy 61 = .ok (.getfield 20, 3) := by decide +kernel
theorem dX12_summedBy_64 : decode cX12_summedBy 64 = .ok (.iload_n 3, 1) := by decide +kernel
theorem dX12_summedBy_65 : decode cX12_summedBy 65 = .ok (.iaload, 1) := by decide +kernel
theorem dX12_summedBy_66 : decode cX12_summedBy 66 = .ok (.aload_n 0, 1) := by decide +kernel
theorem dX12_summedBy_67 : decode cX12_summedBy 67 = .ok (.getfield 20, 3) := by decide +kernel
theorem dX12_summedBy_70 : decode cX12_summedBy 70 = .ok (.iload_n 3, 1) := by decide +kernel
theorem dX12_summedBy_71 : decode cX12_summedBy 71 = .ok (.iconst 1, 1) := by decide +kernel
theorem dX12_summedBy_72 : decode cX12_summedBy 72 = .ok (.iadd, 1) := by decide +kernel
theorem dX12_summedBy_73 : decode cX12_summedBy 73 = .ok (.iaload, 1) := by decide +kernel
theorem dX12_summedBy_74 : decode cX12_summedBy 74 = .ok (.invokevirtual 328, 3) := by decide +kernel
theorem dX12_summedBy_77 : decode cX12_summedBy 77 = .ok (.lreturn, 1) := by decide +kernel
theorem dX12_summedBy_78 : decode cX12_summedBy 78 = .ok (.iinc 2 1, 3) := by decide +kernel
theorem dX12_summedBy_81 : decode cX12_summedBy 81 = .ok (.goto (-79), 3) := by decide +kernel
theorem dX12_summedBy_84 : decode cX12_summedBy 84 = .ok (.lconst 0, 1) := by decide +kernel
theorem dX12_summedBy_85 : decode cX12_summedBy 85 = .ok (.lreturn, 1) := by decide +kernel
theorem dX12_votesFor_0 : decode cX12_votesFor 0 = .ok (.iconst (-1), 1) := by decide +kernel
theorem dX12_votesFor_1 : decode cX12_votesFor 1 = .ok (.istore_n 2, 1) := by decide +kernel
theorem dX12_votesFor_2 : decode cX12_votesFor 2 = .ok (.lconst 0, 1) := by decide +kernel
theorem dX12_votesFor_3 : decode cX12_votesFor 3 = .ok (.lstore_n 3, 1) := by decide +kernel
theorem dX12_votesFor_4 : decode cX12_votesFor 4 = .ok (.iconst 0, 1) := by decide +kernel
theorem dX12_votesFor_5 : decode cX12_votesFor 5 = .ok (.istore 5, 2) := by decide +kernel
theorem dX12_votesFor_7 : decode cX12_votesFor 7 = .ok (.iload 5, 2) := by decide +kernel
theorem dX12_votesFor_9 : decode cX12_votesFor 9 = .ok (.aload_n 0, 1) := by decide +kernel
theorem dX12_votesFor_10 : decode cX12_votesFor 10 = .ok (.getfield 39, 3) := by decide +kernel
theorem dX12_votesFor_13 : decode cX12_votesFor 13 = .ok (.iconst 3, 1) := by decide +kernel
theorem dX12_votesFor_14 : decode cX12_votesFor 14 = .ok (.iaload, 1) := by decide +kernel
theorem dX12_votesFor_15 : decode cX12_votesFor 15 = .ok (.if_icmp .ge 46, 3) := by decide +kernel
theorem dX12_votesFor_18 : decode cX12_votesFor 18 = .ok (.aload_n 0, 1) := by decide +kernel
theorem dX12_votesFor_19 : decode cX12_votesFor 19 = .ok (.iload 5, 2) := by decide +kernel
theorem dX12_votesFor_21 : decode cX12_votesFor 21 = .ok (.invokevirtual 314, 3) := by decide +kernel
theorem dX12_votesFor_24 : decode cX12_votesFor 24 = .ok (.ifCond .ne 6, 3) := by decide +kernel
theorem dX12_votesFor_27 : decode cX12_votesFor 27 = .ok (.goto 28, 3) := by decide +kernel
theorem dX12_votesFor_30 : decode cX12_votesFor 30 = .ok (.aload_n 0, 1) := by decide +kernel
theorem dX12_votesFor_31 : decode cX12_votesFor 31 = .ok (.iload_n 1, 1) := by decide +kernel
theorem dX12_votesFor_32 : decode cX12_votesFor 32 = .ok (.iload 5, 2) := by decide +kernel
theorem dX12_votesFor_34 : decode cX12_votesFor 34 = .ok (.invokevirtual 339, 3) := by decide +kernel
theorem dX12_votesFor_37 : decode cX12_votesFor 37 = .ok (.lstore 6, 2) := by decide +kernel
theorem dX12_votesFor_39 : decode cX12_votesFor 39 = .ok (.lload 6, 2) := by decide +kernel
theorem dX12_votesFor_41 : decode cX12_votesFor 41 = .ok (.lload_n 3, 1) := by decide +kernel
theorem dX12_votesFor_42 : decode cX12_votesFor 42 = .ok (.lcmp, 1) := by decide +kernel
theorem dX12_votesFor_43 : decode cX12_votesFor 43 = .ok (.ifCond .gt 6, 3) := by decide +kernel
theorem dX12_votesFor_46 : decode cX12_votesFor 46 = .ok (.goto 9, 3) := by decide +kernel
theorem dX12_votesFor_49 : decode cX12_votesFor 49 = .ok (.iload 5, 2) := by decide +kernel
theorem dX12_votesFor_51 : decode cX12_votesFor 51 = .ok (.istore_n 2, 1) := by decide +kernel
theorem dX12_votesFor_52 : decode cX12_votesFor 52 = .ok (.lload 6, 2) := by decide +kernel
theorem dX12_votesFor_54 : decode cX12_votesFor 54 = .ok (.lstore_n 3, 1) := by decide +kernel
theorem dX12_votesFor_55 : decode cX12_votesFor 55 = .ok (.iinc 5 1, 3) := by decide +kernel
theorem dX12_votesFor_58 : decode cX12_votesFor 58 = .ok (.goto (-51), 3) := by decide +kernel
theorem dX12_votesFor_61 : decode cX12_votesFor 61 = .ok (.iload_n 2, 1) := by decide +kernel
theorem dX12_votesFor_62 : decode cX12_votesFor 62 = .ok (.ireturn, 1) := by decide +kernel
theorem dX12_wants_0 : decode cX12_wants 0 = .ok (.aload_n 0, 1) := by decide +kernel
theorem dX12_wants_1 : decode cX12_wants 1 = .ok (.getfield 39, 3) := by decide +kernel
theorem dX12_wants_4 : decode cX12_wants 4 = .ok (.bipush 70, 2) := by decide +kernel
theorem dX12_wants_6 : decode cX12_wants 6 = .ok (.bipush 6, 2) := by decide +kernel
theorem dX12_wants_8 : decode cX12_wants 8 = .ok (.iload_n 1, 1) := by decide +kernel
theorem dX12_wants_9 : decode cX12_wants 9 = .ok (.imul, 1) := by decide +kernel
theorem dX12_wants_10 : decode cX12_wants 10 = .ok (.iadd, 1) := by decide +kernel
theorem dX12_wants_11 : decode cX12_wants 11 = .ok (.iload_n 2, 1) := by decide +kernel
theorem dX12_wants_12 : decode cX12_wants 12 = .ok (.iadd, 1) := by decide +kernel
theorem dX12_wants_13 : decode cX12_wants 13 = .ok (.iaload, 1) := by decide +kernel
theorem dX12_wants_14 : decode cX12_wants 14 = .ok (.istore_n 3, 1) := by decide +kernel
theorem dX12_wants_15 : decode cX12_wants 15 = .ok (.aload_n 0, 1) := by decide +kernel
theorem dX12_wants_16 : decode cX12_wants 16 = .ok (.getfield 42, 3) := by decide +kernel
theorem dX12_wants_19 : decode cX12_wants 19 = .ok (.ifCond .ge 13, 3) := by decide +kernel
theorem dX12_wants_22 : decode cX12_wants 22 = .ok (.iload_n 3, 1) := by decide +kernel
theorem dX12_wants_23 : decode cX12_wants 23 = .ok (.aload_n 0, 1) := by decide +kernel
theorem dX12_wants_24 : decode cX12_wants 24 = .ok (.iload_n 2, 1) := by decide +kernel
theorem dX12_wants_25 : decode cX12_wants 25 = .ok (.iconst 1, 1) := by decide +kernel
theorem dX12_wants_26 : decode cX12_wants 26 = .ok (.invokevirtual 304, 3) := by decide +kernel
theorem dX12_wants_29 : decode cX12_wants 29 = .ok (.iadd, 1) := by decide +kernel
theorem dX12_wants_30 : decode cX12_wants 30 = .ok (.i2l, 1) := by decide +kernel
theorem dX12_wants_31 : decode cX12_wants 31 = .ok (.lreturn, 1) := by decide +kernel
theorem dX12_wants_32 : decode cX12_wants 32 = .ok (.aload_n 0, 1) := by decide +kernel
theorem dX12_wants_33 : decode cX12_wants 33 = .ok (.getfield 36, 3) := by decide +kernel
theorem dX12_wants_36 : decode cX12_wants 36 = .ok (.iconst 0, 1) := by decide +kernel
theorem dX12_wants_37 : decode cX12_wants 37 = .ok (.iload_n 1, 1) := by decide +kernel
theorem dX12_wants_38 : decode cX12_wants 38 = .ok (.i2l, 1) := by decide +kernel
theorem dX12_wants_39 : decode cX12_wants 39 = .ok (.lastore, 1) := by decide +kernel
theorem dX12_wants_40 : decode cX12_wants 40 = .ok (.aload_n 0, 1) := by decide +kernel
theorem dX12_wants_41 : decode cX12_wants 41 = .ok (.getfield 36, 3) := by decide +kernel
theorem dX12_wants_44 : decode cX12_wants 44 = .ok (.iconst 1, 1) := by decide +kernel
theorem dX12_wants_45 : decode cX12_wants 45 = .ok (.iload_n 2, 1) := by decide +kernel
theorem dX12_wants_46 : decode cX12_wants 46 = .ok (.i2l, 1) := by decide +kernel
theorem dX12_wants_47 : decode cX12_wants 47 = .ok (.lastore, 1) := by decide +kernel
theorem dX12_wants_48 : decode cX12_wants 48 = .ok (.aload_n 0, 1) := by decide +kernel
theorem dX12_wants_49 : decode cX12_wants 49 = .ok (.getfield 36, 3) := by decide +kernel
theorem dX12_wants_52 : decode cX12_wants 52 = .ok (.iconst 2, 1) := by decide +kernel
theorem dX12_wants_53 : decode cX12_wants 53 = .ok (.aload_n 0, 1) := by decide +kernel
theorem dX12_wants_54 : decode cX12_wants 54 = .ok (.iload_n 2, 1) := by decide +kernel
theorem dX12_wants_55 : decode cX12_wants 55 = .ok (.iconst 0, 1) := by decide +kernel
theorem dX12_wants_56 : decode cX12_wants 56 = .ok (.invokevirtual 304, 3) := by decide +kernel
theorem dX12_wants_59 : decode cX12_wants 59 = .ok (.i2l, 1) := by decide +kernel
theorem dX12_wants_60 : decode cX12_wants 60 = .ok (.lastore, 1) := by decide +kernel
theorem dX12_wants_61 : decode cX12_wants 61 = .ok (.aload_n 0, 1) := by decide +kernel
theorem dX12_wants_62 : decode cX12_wants 62 = .ok (.getfield 36, 3) := by decide +kernel
theorem dX12_wants_65 : decode cX12_wants 65 = .ok (.iconst 3, 1) := by decide +kernel
theorem dX12_wants_66 : decode cX12_wants 66 = .ok (.aload_n 0, 1) := by decide +kernel
theorem dX12_wants_67 : decode cX12_wants 67 = .ok (.iload_n 2, 1) := by decide +kernel
theorem dX12_wants_68 : decode cX12_wants 68 = .ok (.iconst 1, 1) := by decide +kernel
theorem dX12_wants_69 : decode cX12_wants 69 = .ok (.invokevirtual 304, 3) := by decide +kernel
theorem dX12_wants_72 : decode cX12_wants 72 = .ok (.i2l, 1) := by decide +kernel
theorem dX12_wants_73 : decode cX12_wants 73 = .ok (.lastore, 1) := by decide +kernel
theorem dX12_wants_74 : decode cX12_wants 74 = .ok (.aload_n 0, 1) := by decide +kernel
theorem dX12_wants_75 : decode cX12_wants 75 = .ok (.getfield 36, 3) := by decide +kernel
theorem dX12_wants_78 : decode cX12_wants 78 = .ok (.iconst 4, 1) := by decide +kernel
theorem dX12_wants_79 : decode cX12_wants 79 = .ok (.iload_n 3, 1) := by decide +kernel
theorem dX12_wants_80 : decode cX12_wants 80 = .ok (.i2l, 1) := by decide +kernel
theorem dX12_wants_81 : decode cX12_wants 81 = .ok (.lastore, 1) := by decide +kernel
theorem dX12_wants_82 : decode cX12_wants 82 = .ok (.aload_n 0, 1) := by decide +kernel
theorem dX12_wants_83 : decode cX12_wants 83 = .ok (.getfield 36, 3) := by decide +kernel
theorem dX12_wants_86 : decode cX12_wants 86 = .ok (.iconst 5, 1) := by decide +kernel
theorem dX12_wants_87 : decode cX12_wants 87 = .ok (.aload_n 0, 1) := by decide +kernel
theorem dX12_wants_88 : decode cX12_wants 88 = .ok (.getfield 39, 3) := by decide +kernel
theorem dX12_wants_91 : decode cX12_wants 91 = .ok (.bipush 52, 2) := by decide +kernel
theorem dX12_wants_93 : decode cX12_wants 93 = .ok (.iload_n 2, 1) := by decide +kernel
theorem dX12_wants_94 : decode cX12_wants 94 = .ok (.iadd, 1) := by decide +kernel
theorem dX12_wants_95 : decode cX12_wants 95 = .ok (.iaload, 1) := by decide +kernel
theorem dX12_wants_96 : decode cX12_wants 96 = .ok (.i2l, 1) := by decide +kernel
theorem dX12_wants_97 : decode cX12_wants 97 = .ok (.lastore, 1) := by decide +kernel
theorem dX12_wants_98 : decode cX12_wants 98 = .ok (.aload_n 0, 1) := by decide +kernel
theorem dX12_wants_99 : decode cX12_wants 99 = .ok (.getfield 36, 3) := by decide +kernel
theorem dX12_wants_102 : decode cX12_wants 102 = .ok (.bipush 6, 2) := by decide +kernel
theorem dX12_wants_104 : decode cX12_wants 104 = .ok (.aload_n 0, 1) := by decide +kernel
theorem dX12_wants_105 : decode cX12_wants 105 = .ok (.iload_n 2, 1) := by decide +kernel
theorem dX12_wants_106 : decode cX12_wants 106 = .ok (.iconst 2, 1) := by decide +kernel
theorem dX12_wants_107 : decode cX12_wants 107 = .ok (.invokevirtual 304, 3) := by decide +kernel
theorem dX12_wants_110 : decode cX12_wants 110 = .ok (.i2l, 1) := by decide +kernel
theorem dX12_wants_111 : decode cX12_wants 111 = .ok (.lastore, 1) := by decide +kernel
theorem dX12_wants_112 : decode cX12_wants 112 = .ok (.aload_n 0, 1) := by decide +kernel
theorem dX12_wants_113 : decode cX12_wants 113 = .ok (.getfield 36, 3) := by decide +kernel
theorem dX12_wants_116 : decode cX12_wants 116 = .ok (.bipush 7, 2) := by decide +kernel
theorem dX12_wants_118 : decode cX12_wants 118 = .ok (.iload_n 1, 1) := by decide +kernel
theorem dX12_wants_119 : decode cX12_wants 119 = .ok (.iload_n 2, 1) := by decide +kernel
theorem dX12_wants_120 : decode cX12_wants 120 = .ok (.if_icmp .ne 7, 3) := by decide +kernel
theorem dX12_wants_123 : decode cX12_wants 123 = .ok (.lconst 1, 1) := by decide +kernel
theorem dX12_wants_124 : decode cX12_wants 124 = .ok (.goto 4, 3) := by decide +kernel
theorem dX12_wants_127 : decode cX12_wants 127 = .ok (.lconst 0, 1) := by decide +kernel
theorem dX12_wants_128 : decode cX12_wants 128 = .ok (.lastore, 1) := by decide +kernel
theorem dX12_wants_129 : decode cX12_wants 129 = .ok (.aload_n 0, 1) := by decide +kernel
theorem dX12_wants_130 : decode cX12_wants 130 = .ok (.getfield 36, 3) := by decide +kernel
theorem dX12_wants_133 : decode cX12_wants 133 = .ok (.bipush 8, 2) := by decide +kernel
theorem dX12_wants_135 : decode cX12_wants 135 = .ok (.aload_n 0, 1) := by decide +kernel
theorem dX12_wants_136 : decode cX12_wants 136 = .ok (.getfield 39, 3) := by decide +kernel
theorem dX12_wants_139 : decode cX12_wants 139 = .ok (.bipush 10, 2) := by decide +kernel
theorem dX12_wants_141 : decode cX12_wants 141 = .ok (.iaload, 1) := by decide +kernel
theorem dX12_wants_142 : decode cX12_wants 142 = .ok (.i2l, 1) := by decide +kernel
theorem dX12_wants_143 : decode cX12_wants 143 = .ok (.lastore, 1) := by decide +kernel
theorem dX12_wants_144 : decode cX12_wants 144 = .ok (.aload_n 0, 1) := by decide +kernel
theorem dX12_wants_145 : decode cX12_wants 145 = .ok (.getfield 36, 3) := by decide +kernel
theorem dX12_wants_148 : decode cX12_wants 148 = .ok (.bipush 9, 2) := by decide +kernel
theorem dX12_wants_150 : decode cX12_wants 150 = .ok (.aload_n 0, 1) := by decide +kernel
theorem dX12_wants_151 : decode cX12_wants 151 = .ok (.getfield 39, 3) := by decide +kernel
theorem dX12_wants_154 : decode cX12_wants 154 = .ok (.bipush 13, 2) := by decide +kernel
theorem dX12_wants_156 : decode cX12_wants 156 = .ok (.iaload, 1) := by decide +kernel
theorem dX12_wants_157 : decode cX12_wants 157 = .ok (.i2l, 1) := by decide +kernel
theorem dX12_wants_158 : decode cX12_wants 158 = .ok (.lastore, 1) := by decide +kernel
theorem dX12_wants_159 : decode cX12_wants 159 = .ok (.aload_n 0, 1) := by decide +kernel
theorem dX12_wants_160 : decode cX12_wants 160 = .ok (.getfield 36, 3) := by decide +kernel
theorem dX12_wants_163 : decode cX12_wants 163 = .ok (.bipush 10, 2) := by decide +kernel
theorem dX12_wants_165 : decode cX12_wants 165 = .ok (.aload_n 0, 1) := by decide +kernel
theorem dX12_wants_166 : decode cX12_wants 166 = .ok (.invokevirtual 332, 3) := by decide +kernel
theorem dX12_wants_169 : decode cX12_wants 169 = .ok (.i2l, 1) := by decide +kernel
theorem dX12_wants_170 : decode cX12_wants 170 = .ok (.lastore, 1) := by decide +kernel
theorem dX12_wants_171 : decode cX12_wants 171 = .ok (.aload_n 0, 1) := by decide +kernel
theorem dX12_wants_172 : decode cX12_wants 172 = .ok (.aload_n 0, 1) := by decide +kernel
theorem dX12_wants_173 : decode cX12_wants 173 = .ok (.getfield 42, 3) := by decide +kernel
theorem dX12_wants_176 : decode cX12_wants 176 = .ok (.invokevirtual 335, 3) := by decide +kernel
theorem dX12_wants_179 : decode cX12_wants 179 = .ok (.lreturn, 1) := by decide +kernel
theorem li_11 : (11 : Int32).toInt = 11 := by decide
theorem li_15 : (15 : Int32).toInt = 15 := by decide
set_option maxHeartbeats 4000000 in
set_option maxRecDepth 100000 in
theorem t_X12_pop (l : Launch) (dC : Nat → ClassId) (dI : Nat → Nat → Nat) (tys : List (ClassId × FieldType)) (κ : tK) (B : Nat) (ws : va_W) (hT : Ty κ tys B ws) (a0 : Nat) (k_a0 : κ a0 = some 12) (f0 : Int32) (l_f0 : 1 ≤ f0.toInt) (h_f0 : f0.toInt ≤ 64) (f_a0_X12_18 : fld ws a0 12 18 (.int f0)) (sz : Nat) : Met l yX12_pop (ws_u yX12_pop cX12_pop 1 (some .long)) ({ frames := 0, cells := 0, slots := 0, locals := 0 }) (va_Pc [.ref a0] (cPre (dC, dI) tys ws sz)) (va_Ql (fun (r : Int64) (w : va_W) => Ty κ tys B w ∧ Sm [(12, 18)] [] κ ws w ∧ (∃ (xt : Int32), 0 ≤ xt.toInt ∧ xt.toInt ≤ 64 ∧ fld w a0 12 18 (.int xt) ∧ xt.toInt = f0.toInt - 1)) (fun w t => cPost (dC, dI) tys w (va_A ws sz) t) (va_A ws sz)) 0 0 (va_A ws sz) := by
  refine Met.ofW (cc := cX12_pop) (maxL := 1) (ret := (some .long)) (by decide) rfl ?_
  intro p e s m args below meth c s₁ B0 hml hv
  obtain ⟨rfl, hsz, hP, hK, hD0, hE⟩ := hv
  have hx := B0.exec
  have hb := B0.bytes
  have hr := B0.returns
  have hts0 := atoms_spec (ws := ws_u yX12_pop cX12_pop 1 (some .long)) B0.pre
  have hts : ∀ w ∈ gT, w.before _ s = true := fun w h => hts0 w (List.mem_cons_of_mem _ h)
  have hown : s.vm.findClass RX12 = some m.cls := findClass_of_methodNamed B0.named
  have hlocks := B0.notSynchronized
  subst hsz
  have hD := hD0.self (sz := s.heap.size)
  generalize hAe : va_A ws s.heap.size = A at hD ⊢
  have hA : ∀ q : Nat, s.heap.size ≤ q → A q := fun q h => by rw [← hAe]; exact Or.inr h
  have hw : tW (dC, dI) tys κ B A s ws s.heap [] := ⟨hK, hP, hD, va_S.rf, hT⟩
  have hM : Sm [(12, 18)] [] κ ws ws := Sm.rf
  clear hP hK hD hD0 hts0
  have hl := lv_entry ([.ref a0]) (n := 1) (Nat.le_of_ble_eq_true rfl)
  rw [lg_entry_eq]
  generalize (lg_sl ([.ref a0]) ++ List.replicate (1 - (lg_sl ([.ref a0])).length) Slot.unset).toArray = ls at hl ⊢
  have hl : lv_has ls 1 [(0, .ref a0)] := hl
  refine t_start (fun QQ hQ => ?_)
  refine lv_aload_n hx hb dX12_pop_0 rfl (lv_at hl 0 rfl) ?_
  refine lv_dup hx hb dX12_pop_1 rfl ?_
  refine t_getk (ci := 12) (C := RX12) (T := TX12) (N := 38) hx hb hts iX12 hown hw rfl 18 (by decide) (hts _ tw_1143) (fun _ h9 => h9) dX12_pop_2 f_a0_X12_18 ?_
  refine lv_iconst (v := 1) hx hb dX12_pop_5 (by decide) ?_
  refine lv_isub hx hb dX12_pop_6 ?_
  refine lv_topi (fun v6 e_v6 => ?_)
  have e_v6 : v6.toInt = f0.toInt - 1 := sb_i e_v6 rfl li_1 (by omega) (by omega)
  refine t_put (ci := 12) (C := RX12) (T := TX12) (N := 38) (v := .int v6) hx hb hts iX12 tyX12 tyX12_ok nmX12 hown hw k_a0 rfl rfl rfl 18 (by decide) (hts _ tw_1143) (fun _ h9 => h9) rfl (tyX12_ok 18 (by decide)) rfl rfl (okV.int rfl (by omega) (by omega)) dX12_pop_7 (fun w_1 H locs hw u => ?_)
  have hM := hM.up1 u (by decide)
  have f_a0_X12_18 := u.2.2
  refine lv_aload_n hx hb dX12_pop_10 rfl (lv_at hl 0 rfl) ?_
  refine t_getr (k1 := 61) (ci := 12) (C := RX12) (T := TX12) (N := 38) hx hb hts iX12 hown hw k_a0 rfl rfl rfl 17 (by decide) (hts _ tw_1142) (fun _ h9 => h9) dX12_pop_11 rfl (fun v11 k_v11 f_a0_X12_17 => ?_)
  refine lv_aload_n hx hb dX12_pop_14 rfl (lv_at hl 0 rfl) ?_
  refine t_getk (ci := 12) (C := RX12) (T := TX12) (N := 38) hx hb hts iX12 hown hw rfl 18 (by decide) (hts _ tw_1143) (fun _ h9 => h9) dX12_pop_15 f_a0_X12_18 ?_
  refine t_lald hx hb hw k_v11 rfl rfl (by omega) (show v6.toInt < 64 by omega) dX12_pop_18 (fun v18 => ?_)
  rw [hQ]
  refine W.widen (k := 0) (n := 0) (Nat.le_refl _) (Nat.le_refl _) ?_
  exact W.lret (v := v18) hx hb hr (fun t ht hW => ⟨⟨v18, w_1, rfl, ⟨hw.2.2.2.2, hM, ⟨v6, (by omega), (by omega), f_a0_X12_18, (by omega)⟩⟩, by rw [ht]; exact hw.2.1, va_K.moved hW.alike hw.1, hw.2.2.1⟩, hw.2.2.2.1.F ht⟩) hw.2.2.2.1.2.2 dX12_pop_19
set_option maxHeartbeats 4000000 in
set_option maxRecDepth 100000 in
theorem t_X12_push (l : Launch) (dC : Nat → ClassId) (dI : Nat → Nat → Nat) (tys : List (ClassId × FieldType)) (κ : tK) (B : Nat) (ws : va_W) (hT : Ty κ tys B ws) (a0 : Nat) (k_a0 : κ a0 = some 12) (a1 : Int64) (f0 : Int32) (l_f0 : 0 ≤ f0.toInt) (h_f0 : f0.toInt ≤ 63) (f_a0_X12_18 : fld ws a0 12 18 (.int f0)) (sz : Nat) : Met l yX12_push (ws_u yX12_push cX12_push 3 none) ({ frames := 0, cells := 0, slots := 0, locals := 0 }) (va_Pc [.ref a0, .long a1] (cPre (dC, dI) tys ws sz)) (va_Qv (fun (w : va_W) => Ty κ tys B w ∧ Sm [(12, 18)] [61] κ ws w ∧ (∃ (xt : Int32), 0 ≤ xt.toInt ∧ xt.toInt ≤ 64 ∧ fld w a0 12 18 (.int xt) ∧ xt.toInt = f0.toInt + 1)) (fun w t => cPost (dC, dI) tys w (va_A ws sz) t) (va_A ws sz)) 0 0 (va_A ws sz) := by
  refine Met.ofW (cc := cX12_push) (maxL := 3) (ret := none) (by decide) rfl ?_
  intro p e s m args below meth c s₁ B0 hml hv
  obtain ⟨rfl, hsz, hP, hK, hD0, hE⟩ := hv
  have hx := B0.exec
  have hb := B0.bytes
  have hr := B0.returns
  have hts0 := atoms_spec (ws := ws_u yX12_push cX12_push 3 none) B0.pre
  have hts : ∀ w ∈ gT, w.before _ s = true := fun w h => hts0 w (List.mem_cons_of_mem _ h)
  have hown : s.vm.findClass RX12 = some m.cls := findClass_of_methodNamed B0.named
  have hlocks := B0.notSynchronized
  subst hsz
  have hD := hD0.self (sz := s.heap.size)
  generalize hAe : va_A ws s.heap.size = A at hD ⊢
  have hA : ∀ q : Nat, s.heap.size ≤ q → A q := fun q h => by rw [← hAe]; exact Or.inr h
  have hw : tW (dC, dI) tys κ B A s ws s.heap [] := ⟨hK, hP, hD, va_S.rf, hT⟩
  have hM : Sm [(12, 18)] [61] κ ws ws := Sm.rf
  clear hP hK hD hD0 hts0
  have hl := lv_entry ([.ref a0, .long a1]) (n := 3) (Nat.le_of_ble_eq_true rfl)
  rw [lg_entry_eq]
  generalize (lg_sl ([.ref a0, .long a1]) ++ List.replicate (3 - (lg_sl ([.ref a0, .long a1])).length) Slot.unset).toArray = ls at hl ⊢
  have hl : lv_has ls 3 [(0, .ref a0), (1, .long a1)] := hl
  refine t_start (fun QQ hQ => ?_)
  refine lv_aload_n hx hb dX12_push_0 rfl (lv_at hl 0 rfl) ?_
  refine t_getr (k1 := 61) (ci := 12) (C := RX12) (T := TX12) (N := 38) hx hb hts iX12 hown hw k_a0 rfl rfl rfl 17 (by decide) (hts _ tw_1142) (fun _ h9 => h9) dX12_push_1 rfl (fun v1 k_v1 f_a0_X12_17 => ?_)
  refine lv_aload_n hx hb dX12_push_4 rfl (lv_at hl 0 rfl) ?_
  refine t_getk (ci := 12) (C := RX12) (T := TX12) (N := 38) hx hb hts iX12 hown hw rfl 18 (by decide) (hts _ tw_1143) (fun _ h9 => h9) dX12_push_5 f_a0_X12_18 ?_
  refine lv_lload_n hx hb dX12_push_8 rfl (lv_at hl 1 rfl) ?_
  refine t_last hx hb hw k_v1 rfl rfl (by omega) (show f0.toInt < 64 by omega) dX12_push_9 (fun w_1 H locs y hw u => ?_)
  have hM := hM.up2 u k_v1 (by decide)
  have f_a0_X12_18 := u.1 _ _ _ _ f_a0_X12_18
  have f_a0_X12_17 := u.1 _ _ _ _ f_a0_X12_17
  refine lv_aload_n hx hb dX12_push_10 rfl (lv_at hl 0 rfl) ?_
  refine lv_dup hx hb dX12_push_11 rfl ?_
  refine t_getk (ci := 12) (C := RX12) (T := TX12) (N := 38) hx hb hts iX12 hown hw rfl 18 (by decide) (hts _ tw_1143) (fun _ h9 => h9) dX12_push_12 f_a0_X12_18 ?_
  refine lv_iconst (v := 1) hx hb dX12_push_15 (by decide) ?_
  refine lv_iadd hx hb dX12_push_16 ?_
  refine lv_topi (fun v16 e_v16 => ?_)
  have e_v16 : v16.toInt = f0.toInt + 1 := ad_i e_v16 rfl li_1 (by omega) (by omega)
  refine t_put (ci := 12) (C := RX12) (T := TX12) (N := 38) (v := .int v16) hx hb hts iX12 tyX12 tyX12_ok nmX12 hown hw k_a0 rfl rfl rfl 18 (by decide) (hts _ tw_1143) (fun _ h9 => h9) rfl (tyX12_ok 18 (by decide)) rfl rfl (okV.int rfl (by omega) (by omega)) dX12_push_17 (fun w_2 H locs hw u => ?_)
  have hM := hM.up1 u (by decide)
  have f_a0_X12_18 := u.2.2
  have f_a0_X12_17 := u.1 _ _ _ _ f_a0_X12_17 (Or.inr (Or.inr (by decide)))
  rw [hQ]
  refine W.widen (k := 0) (n := 0) (Nat.le_refl _) (Nat.le_refl _) ?_
  exact W.vret hx hb hr (fun t ht hW => ⟨⟨w_2, rfl, ⟨hw.2.2.2.2, hM, ⟨v16, (by omega), (by omega), f_a0_X12_18, (by omega)⟩⟩, by rw [ht]; exact hw.2.1, va_K.moved hW.alike hw.1, hw.2.2.1⟩, hw.2.2.2.1.F ht⟩) hw.2.2.2.1.2.2 dX12_push_20
set_option maxHeartbeats 4000000 in
set_option maxRecDepth 100000 in
theorem t_X12_reckons (l : Launch) (dC : Nat → ClassId) (dI : Nat → Nat → Nat) (tys : List (ClassId × FieldType)) (κ : tK) (B : Nat) (ws : va_W) (hT : Ty κ tys B ws) (a0 : Nat) (k_a0 : κ a0 = some 12) (a1 : Int32) (l_a1 : 0 ≤ a1.toInt) (h_a1 : a1.toInt ≤ 5) (a2 : Int32) (l_a2 : (-1) ≤ a2.toInt) (h_a2 : a2.toInt ≤ 400) (a3 : Int32) (l_a3 : (-1) ≤ a3.toInt) (h_a3 : a3.toInt ≤ 400) (hSG : SG κ ws a0 a1.toInt.toNat a2.toInt a3.toInt) (sz : Nat) : Met l yX12_reckons (ws_u yX12_reckons cX12_reckons 11 (some .long)) ({ frames := 1, cells := 0, slots := 0, locals := 24 }) (va_Pc [.ref a0, .int a1, .int a2, .int a3] (cPre (dC, dI) tys ws sz)) (va_Ql (fun (r : Int64) (w : va_W) => Ty κ tys B w ∧ Sm [(12, 18)] [61] κ ws w) (fun w t => cPost (dC, dI) tys w (va_A ws sz) t) (va_A ws sz)) 0 0 (va_A ws sz) := by
  refine Met.ofW (cc := cX12_reckons) (maxL := 11) (ret := (some .long)) (by decide) rfl ?_
  intro p e s m args below meth c s₁ B0 hml hv
  obtain ⟨rfl, hsz, hP, hK, hD0, hE⟩ := hv
  have hx := B0.exec
  have hb := B0.bytes
  have hr := B0.returns
  have hts0 := atoms_spec (ws := ws_u yX12_reckons cX12_reckons 11 (some .long)) B0.pre
  have hts : ∀ w ∈ gT, w.before _ s = true := fun w h => hts0 w (List.mem_cons_of_mem _ h)
  have hown : s.vm.findClass RX12 = some m.cls := findClass_of_methodNamed B0.named
  have hlocks := B0.notSynchronized
  subst hsz
  have hD := hD0.self (sz := s.heap.size)
  generalize hAe : va_A ws s.heap.size = A at hD ⊢
  have hA : ∀ q : Nat, s.heap.size ≤ q → A q := fun q h => by rw [← hAe]; exact Or.inr h
  have hw : tW (dC, dI) tys κ B A s ws s.heap [] := ⟨hK, hP, hD, va_S.rf, hT⟩
  have hM : Sm [(12, 18)] [61] κ ws ws := Sm.rf
  clear hP hK hD hD0 hts0
  have hl := lv_entry ([.ref a0, .int a1, .int a2, .int a3]) (n := 11) (Nat.le_of_ble_eq_true rfl)
  rw [lg_entry_eq]
  generalize (lg_sl ([.ref a0, .int a1, .int a2, .int a3]) ++ List.replicate (11 - (lg_sl ([.ref a0, .int a1, .int a2, .int a3])).length) Slot.unset).toArray = ls at hl ⊢
  have hl : lv_has ls 11 [(0, .ref a0), (1, .int a1), (2, .int a2), (3, .int a3)] := hl
  refine t_start (fun QQ hQ => ?_)
  obtain ⟨sA, g, hsf, hsk, hsg, hseg⟩ := hSG
  have hb0 := hseg.1
  have hb1 := hseg.2.1
  have hb2 := hseg.2.2.1
  refine lv_aload_n hx hb dX12_reckons_0 rfl (lv_at hl 0 rfl) ?_
  refine lv_iconst (v := 0) hx hb dX12_reckons_1 (by decide) ?_
  refine t_put (ci := 12) (C := RX12) (T := TX12) (N := 38) (v := .int 0) hx hb hts iX12 tyX12 tyX12_ok nmX12 hown hw k_a0 rfl rfl rfl 18 (by decide) (hts _ tw_1143) (fun _ h9 => h9) rfl (tyX12_ok 18 (by decide)) rfl rfl (okV.int rfl (by decide) (by decide)) dX12_reckons_2 (fun w_1 H locs hw u => ?_)
  have hM := hM.up1 u (by decide)
  have f_a0_X12_18 := u.2.2
  refine lv_iload_n hx hb dX12_reckons_5 rfl (lv_at hl 2 rfl) ?_
  refine lv_istore (lv' := [(4, .int a2), (0, .ref a0), (1, .int a1), (2, .int a2), (3, .int a3)]) hx hb dX12_reckons_6 hl (by decide) rfl (fun ls hl => ?_)
  have J8 : ∀ (n : Nat) (H : Heap) (locs : List Loc) (ls : Array Slot), (∃ (w8 : va_W) (p8_l4 : Int32) (p8_m_a0_X12_18 : Int32), tW (dC, dI) tys κ B A s w8 H locs ∧ Sm [(12, 18)] [61] κ ws w8 ∧ (-1) ≤ p8_l4.toInt ∧ p8_l4.toInt ≤ 400 ∧ 0 ≤ p8_m_a0_X12_18.toInt ∧ p8_m_a0_X12_18.toInt ≤ 64 ∧ fld w8 a0 12 18 (.int p8_m_a0_X12_18) ∧ a2.toInt ≤ p8_l4.toInt ∧ p8_l4.toInt ≤ a3.toInt ∧ hg g a1.toInt.toNat a2.toInt p8_l4.toInt = p8_m_a0_X12_18.toInt ∧ lv_has ls 11 [(0, .ref a0), (1, .int a1), (2, .int a2), (3, .int a3), (4, .int p8_l4)] ∧ (400 - p8_l4.toInt).toNat = n) → W p l e (headSpec (ws_u yX12_reckons cX12_reckons 11 (some .long)) ({ frames := 1, cells := 0, slots := 0, locals := 24 })).room s m ([.ref a0, .int a1, .int a2, .int a3] : List Value).toArray below meth c H locs 0 0 QQ (F0 m 8 ls []) := by
    refine loopT _ ?_
    intro n_8 H locs ls hI ih_8
    obtain ⟨w8, p8_l4, p8_m_a0_X12_18, hw, hM, l_p8_l4, h_p8_l4, l_p8_m_a0_X12_18, h_p8_m_a0_X12_18, f_a0_X12_18, li_8_0, li_8_1, hI, hl, hn_8⟩ := hI
    refine lv_iload hx hb dX12_reckons_8 (lv_at hl 4 rfl) ?_
    refine lv_iload_n hx hb dX12_reckons_10 rfl (lv_at hl 3 rfl) ?_
    refine lv_icmp_ge (tgt := 135) hx hb dX12_reckons_11 (by decide) (fun c_11 => ?_) (fun c_11 => ?_)
    · simp only [fa_lt, fa_le, fa_eq] at c_11
      refine lv_aload_n hx hb dX12_reckons_135 rfl (lv_at hl 0 rfl) ?_
      have hend := seg_end hseg
      have hie : p8_l4.toInt = a3.toInt := by omega
      rw [hie] at hI
      refine t_calll (va_runV (As := []) (rest := []) ⟨hx, hb, hml, hown, hts⟩ (t_X12_pop l dC dI tys κ B w8 hw.2.2.2.2 a0 k_a0 p8_m_a0_X12_18 (by omega) (by omega) f_a0_X12_18 H.size) (cwV 0 hts (gUV tw_1541 tw_1543 ts_6_9 tw_13 tw_1544) rfl rfl rfl (by decide +kernel) ⟨(Nat.le_of_ble_eq_true rfl), (Nat.le_of_ble_eq_true rfl)⟩) ⟨cPre.blind, t_recv hw (ci := 12) k_a0 rfl rfl, cPre.use hw.2.1 hw.1 hw.2.2.1 hE⟩ rfl rfl hl.1 rfl (lv_room (Nat.le_of_ble_eq_true rfl)) dX12_reckons_136 ⟨(Nat.le_of_ble_eq_true rfl), (Nat.le_of_ble_eq_true rfl)⟩) hw hA (fun _ _ h => h.1) (fun v136 w_2 H locs hp hw => ?_)
      obtain ⟨_, hm, ⟨v136t, l_v136t, h_v136t, f_a0_X12_18, y_v136⟩⟩ := hp
      have hM := hM.trans hm (by decide) (by decide)
      rw [hQ]
      refine W.widen (k := 0) (n := 0) (Nat.le_refl _) (Nat.le_refl _) ?_
      exact W.lret (v := v136) hx hb hr (fun t ht hW => ⟨⟨v136, w_2, rfl, ⟨hw.2.2.2.2, hM⟩, by rw [ht]; exact hw.2.1, va_K.moved hW.alike hw.1, hw.2.2.1⟩, hw.2.2.2.1.F ht⟩) hw.2.2.2.1.2.2 dX12_reckons_139
    · simp only [fa_lt, fa_le, fa_eq] at c_11
      refine lv_aload_n hx hb dX12_reckons_14 rfl (lv_at hl 0 rfl) ?_
      refine t_getr (k1 := 55) (ci := 12) (C := RX12) (T := TX12) (N := 38) hx hb hts iX12 hown hw k_a0 rfl rfl rfl 3 (by decide) (hts _ tw_1128) (fun _ h9 => h9) dX12_reckons_15 rfl (fun v15 k_v15 f_a0_X12_3 => ?_)
      refine lv_sipush (v := 400) hx hb dX12_reckons_18 (by decide) ?_
      refine lv_iload_n hx hb dX12_reckons_21 rfl (lv_at hl 1 rfl) ?_
      refine lv_imul hx hb dX12_reckons_22 ?_
      refine lv_topi (fun v22 e_v22 => ?_)
      have e_v22 : v22.toInt = 400 * a1.toInt := ml_i e_v22 li_400 rfl (by omega) (by omega)
      refine lv_iload hx hb dX12_reckons_23 (lv_at hl 4 rfl) ?_
      refine lv_iadd hx hb dX12_reckons_25 ?_
      refine lv_topi (fun v25 e_v25 => ?_)
      have e_v25 : v25.toInt = v22.toInt + p8_l4.toInt := ad_i e_v25 rfl rfl (by omega) (by omega)
      refine t_iald hx hb hw k_v15 rfl rfl (by omega) (show v25.toInt < 2400 by omega) dX12_reckons_26 (fun v26 r_v26 s_v26 q_v26 => ?_)
      have l_v26 := i32_lo v26
      have h_v26 := i32_hi v26
      have hx26 := sg_at hw.2.2.1 (hM.1 _ _ _ _ hsf (by decide)) (arr_sm hsg hM hsk (by decide)) f_a0_X12_3 q_v26
      refine lv_bipush (v := 15) hx hb dX12_reckons_27 (by decide) ?_
      refine lv_iand hx hb dX12_reckons_29 ?_
      refine lv_topi (fun v29 e_v29 => ?_)
      have ⟨l_v29, h_v29⟩ : 0 ≤ v29.toInt ∧ v29.toInt ≤ 15 := and_r e_v29 li_15 (by decide)
      have hsx : sx (g v25.toInt.toNat) = v29.toInt := by unfold sx; rw [← hx26, ← e_v29]
      obtain ⟨hok, hnx⟩ := seg_step hseg (i := p8_l4.toInt) (j := v25.toInt.toNat) (by omega) (by omega) (by omega)
      have hcs := stH_cases (g v25.toInt.toNat) (hg g a1.toInt.toNat a2.toInt p8_l4.toInt)
      rw [hsx] at hcs
      obtain ⟨ok1, ok2, ok3, ok4⟩ := hok
      rw [hsx] at ok1 ok2 ok3 ok4
      refine lv_istore (lv' := [(5, .int v29), (0, .ref a0), (1, .int a1), (2, .int a2), (3, .int a3), (4, .int p8_l4)]) hx hb dX12_reckons_30 hl (by decide) rfl (fun ls hl => ?_)
      refine lv_aload_n hx hb dX12_reckons_32 rfl (lv_at hl 1 rfl) ?_
      refine t_getk (ci := 12) (C := RX12) (T := TX12) (N := 38) hx hb hts iX12 hown hw rfl 3 (by decide) (hts _ tw_1128) (fun _ h9 => h9) dX12_reckons_33 f_a0_X12_3 ?_
      refine lv_sipush (v := 400) hx hb dX12_reckons_36 (by decide) ?_
      refine lv_iload_n hx hb dX12_reckons_39 rfl (lv_at hl 2 rfl) ?_
      refine lv_imul hx hb dX12_reckons_40 ?_
      refine lv_topi (fun v40 e_v40 => ?_)
      have e_v40 : v40.toInt = 400 * a1.toInt := ml_i e_v40 li_400 rfl (by omega) (by omega)
      refine lv_iload hx hb dX12_reckons_41 (lv_at hl 5 rfl) ?_
      refine lv_iadd hx hb dX12_reckons_43 ?_
      refine lv_topi (fun v43 e_v43 => ?_)
      have e_v43 : v43.toInt = v40.toInt + p8_l4.toInt := ad_i e_v43 rfl rfl (by omega) (by omega)
      refine t_iald hx hb hw k_v15 rfl rfl (by omega) (show v43.toInt < 2400 by omega) dX12_reckons_44 (fun v44 r_v44 s_v44 q_v44 => ?_)
      have l_v44 := i32_lo v44
      have h_v44 := i32_hi v44
      have hx44 := sg_at hw.2.2.1 (hM.1 _ _ _ _ hsf (by decide)) (arr_sm hsg hM hsk (by decide)) f_a0_X12_3 q_v44
      refine lv_iconst (v := 4) hx hb dX12_reckons_45 (by decide) ?_
      refine lv_ishr hx hb dX12_reckons_46 ?_
      refine lv_topi (fun v46 e_v46 => ?_)
      have l_v46 := i32_lo v46
      have h_v46 := i32_hi v46
      have hvx : vx (g v25.toInt.toNat) = v46.toInt := by unfold vx; rw [show v25.toInt.toNat = v43.toInt.toNat by omega, ← hx44, ← e_v46]
      rw [hvx] at ok1
      refine lv_istore (lv' := [(6, .int v46), (5, .int v29), (0, .ref a0), (1, .int a1), (2, .int a2), (3, .int a3), (4, .int p8_l4)]) hx hb dX12_reckons_47 hl (by decide) rfl (fun ls hl => ?_)
      refine lv_iload hx hb dX12_reckons_49 (lv_at hl 1 rfl) ?_
      refine lv_if_ne (tgt := 64) hx hb dX12_reckons_51 (by decide) (fun c_51 => ?_) (fun c_51 => ?_)
      · simp only [fa_lt, fa_le, fa_eq, li_0] at c_51
        refine lv_iload hx hb dX12_reckons_64 (lv_at hl 1 rfl) ?_
        refine lv_iconst (v := 1) hx hb dX12_reckons_66 (by decide) ?_
        refine lv_icmp_ne (tgt := 84) hx hb dX12_reckons_67 (by decide) (fun c_67 => ?_) (fun c_67 => ?_)
        · simp only [fa_lt, fa_le, fa_eq, li_1] at c_67
          refine lv_iload hx hb dX12_reckons_84 (lv_at hl 1 rfl) ?_
          refine lv_bipush (v := 11) hx hb dX12_reckons_86 (by decide) ?_
          refine lv_icmp_ne (tgt := 104) hx hb dX12_reckons_88 (by decide) (fun c_88 => ?_) (fun c_88 => ?_)
          · simp only [fa_lt, fa_le, fa_eq, li_11] at c_88
            refine lv_aload_n hx hb dX12_reckons_104 rfl (lv_at hl 2 rfl) ?_
            refine t_calll (va_runV (As := []) (rest := []) ⟨hx, hb, hml, hown, hts⟩ (t_X12_pop l dC dI tys κ B w8 hw.2.2.2.2 a0 k_a0 p8_m_a0_X12_18 (by omega) (by omega) f_a0_X12_18 H.size) (cwV 0 hts (gUV tw_1541 tw_1543 ts_6_9 tw_13 tw_1544) rfl rfl rfl (by decide +kernel) ⟨(Nat.le_of_ble_eq_true rfl), (Nat.le_of_ble_eq_true rfl)⟩) ⟨cPre.blind, t_recv hw (ci := 12) k_a0 rfl rfl, cPre.use hw.2.1 hw.1 hw.2.2.1 hE⟩ rfl rfl hl.1 rfl (lv_room (Nat.le_of_ble_eq_true rfl)) dX12_reckons_105 ⟨(Nat.le_of_ble_eq_true rfl), (Nat.le_of_ble_eq_true rfl)⟩) hw hA (fun _ _ h => h.1) (fun v105 w_3 H locs hp hw => ?_)
            obtain ⟨_, hm, ⟨v105t, l_v105t, h_v105t, f_a0_X12_18, y_v105⟩⟩ := hp
            have hM := hM.trans hm (by decide) (by decide)
            have f_a0_X12_3 := hm.1 _ _ _ _ f_a0_X12_3 (by decide)
            refine lv_lstore (lv' := [(7, .long v105), (6, .int v46), (5, .int v29), (0, .ref a0), (1, .int a1), (2, .int a2), (3, .int a3), (4, .int p8_l4)]) hx hb dX12_reckons_108 hl (by decide) rfl (fun ls hl => ?_)
            refine lv_aload_n hx hb dX12_reckons_110 rfl (lv_at hl 3 rfl) ?_
            refine t_calll (va_runV (As := []) (rest := []) ⟨hx, hb, hml, hown, hts⟩ (t_X12_pop l dC dI tys κ B w_3 hw.2.2.2.2 a0 k_a0 v105t (by omega) (by omega) f_a0_X12_18 H.size) (cwV 0 hts (gUV tw_1541 tw_1543 ts_6_9 tw_13 tw_1544) rfl rfl rfl (by decide +kernel) ⟨(Nat.le_of_ble_eq_true rfl), (Nat.le_of_ble_eq_true rfl)⟩) ⟨cPre.blind, t_recv hw (ci := 12) k_a0 rfl rfl, cPre.use hw.2.1 hw.1 hw.2.2.1 hE⟩ rfl rfl hl.1 rfl (lv_room (Nat.le_of_ble_eq_true rfl)) dX12_reckons_111 ⟨(Nat.le_of_ble_eq_true rfl), (Nat.le_of_ble_eq_true rfl)⟩) hw hA (fun _ _ h => h.1) (fun v111 w_4 H locs hp hw => ?_)
            obtain ⟨_, hm, ⟨v111t, l_v111t, h_v111t, f_a0_X12_18, y_v111⟩⟩ := hp
            have hM := hM.trans hm (by decide) (by decide)
            have f_a0_X12_3 := hm.1 _ _ _ _ f_a0_X12_3 (by decide)
            refine lv_lstore (lv' := [(9, .long v111), (7, .long v105), (6, .int v46), (5, .int v29), (0, .ref a0), (1, .int a1), (2, .int a2), (3, .int a3), (4, .int p8_l4)]) hx hb dX12_reckons_114 hl (by decide) rfl (fun ls hl => ?_)
            refine lv_aload_n hx hb dX12_reckons_116 rfl (lv_at hl 4 rfl) ?_
            refine lv_iload hx hb dX12_reckons_117 (lv_at hl 3 rfl) ?_
            refine lv_lload hx hb dX12_reckons_119 (lv_at hl 0 rfl) ?_
            refine lv_lload hx hb dX12_reckons_121 (lv_at hl 1 rfl) ?_
            refine t_calll (va_runS (As := [.int v29, .long v111, .long v105]) (rest := [.ref a0]) ⟨hx, hb, hml, hown, hts⟩ (t_X12_one l dC dI tys κ B w_4 hw.2.2.2.2 v29 (by omega) (by omega) v111 v105 H.size) (va_cwS 3 hts (gUS tw_1545 tw_1546 tw_13 tw_1547) rfl rfl rfl (by decide +kernel) ⟨(Nat.le_of_ble_eq_true rfl), (Nat.le_of_ble_eq_true rfl)⟩) ⟨cPre.blind, cPre.use hw.2.1 hw.1 hw.2.2.1 hE⟩ rfl rfl hl.1 rfl (lv_room (Nat.le_of_ble_eq_true rfl)) dX12_reckons_123 ⟨(Nat.le_of_ble_eq_true rfl), (Nat.le_of_ble_eq_true rfl)⟩) hw hA (fun _ _ h => h.1) (fun v123 w_5 H locs hp hw => ?_)
            obtain ⟨_, hm⟩ := hp
            have hM := hM.trans hm (by decide) (by decide)
            have f_a0_X12_3 := hm.1 _ _ _ _ f_a0_X12_3 (by decide)
            have f_a0_X12_18 := hm.1 _ _ _ _ f_a0_X12_18 (by decide)
            refine t_callv (va_runV (As := [.long v123]) (rest := []) ⟨hx, hb, hml, hown, hts⟩ (t_X12_push l dC dI tys κ B w_5 hw.2.2.2.2 a0 k_a0 v123 v111t (by omega) (by omega) f_a0_X12_18 H.size) (cwV 1 hts (gUV tw_1537 tw_1539 ts_6_8 tw_13 tw_1540) rfl rfl rfl (by decide +kernel) ⟨(Nat.le_of_ble_eq_true rfl), (Nat.le_of_ble_eq_true rfl)⟩) ⟨cPre.blind, t_recv hw (ci := 12) k_a0 rfl rfl, cPre.use hw.2.1 hw.1 hw.2.2.1 hE⟩ rfl rfl hl.1 rfl (lv_room (Nat.le_of_ble_eq_true rfl)) dX12_reckons_126 ⟨(Nat.le_of_ble_eq_true rfl), (Nat.le_of_ble_eq_true rfl)⟩) hw hA (fun _ h => h.1) (fun w_6 H locs hp hw => ?_)
            obtain ⟨_, hm, ⟨v126t, l_v126t, h_v126t, f_a0_X12_18, y_v126⟩⟩ := hp
            have hM := hM.trans hm (by decide) (by decide)
            have f_a0_X12_3 := hm.1 _ _ _ _ f_a0_X12_3 (by decide)
            obtain ⟨v129, e_v129⟩ : ∃ y : Int32, y = p8_l4 + 1 := ⟨_, rfl⟩
            refine lv_iinc (v := v129) (lv' := [(4, .int v129), (9, .long v111), (7, .long v105), (6, .int v46), (5, .int v29), (0, .ref a0), (1, .int a1), (2, .int a2), (3, .int a3)]) hx hb dX12_reckons_129 hl (k := 8) rfl e_v129.symm (by decide) rfl (fun ls hl => ?_)
            have e_v129 : v129.toInt = p8_l4.toInt + 1 := ad_i e_v129 rfl li_1 (by omega) (by omega)
            refine lv_goto (tgt := 8) hx hb dX12_reckons_132 (by decide) ?_
            exact ih_8 _ _ _ _ (by omega) ⟨w_6, v129, v126t, hw, hM, (by omega), (by omega), (by omega), (by omega), f_a0_X12_18, (by omega), (by omega), (by rw [e_v129]; omega), (lv_sub hl [5, 6, 7, 8, 0] rfl), rfl⟩
          · simp only [fa_lt, fa_le, fa_eq, li_11] at c_88
            refine lv_aload_n hx hb dX12_reckons_91 rfl (lv_at hl 2 rfl) ?_
            refine lv_lconst (v := 1) hx hb dX12_reckons_92 (by decide) ?_
            obtain ⟨v92, e_v92⟩ : ∃ y : Int64, y = 1 := ⟨_, rfl⟩
            refine W.eq (g2 := F0 m 93 ls [.long v92, .ref a0]) (by rw [e_v92]) ?_
            have t_v92 : v92.toInt = 1 := by rw [e_v92]; decide
            refine lv_aload_n hx hb dX12_reckons_93 rfl (lv_at hl 2 rfl) ?_
            refine t_calll (va_runV (As := []) (rest := [.long v92, .ref a0]) ⟨hx, hb, hml, hown, hts⟩ (t_X12_pop l dC dI tys κ B w8 hw.2.2.2.2 a0 k_a0 p8_m_a0_X12_18 (by omega) (by omega) f_a0_X12_18 H.size) (cwV 0 hts (gUV tw_1541 tw_1543 ts_6_9 tw_13 tw_1544) rfl rfl rfl (by decide +kernel) ⟨(Nat.le_of_ble_eq_true rfl), (Nat.le_of_ble_eq_true rfl)⟩) ⟨cPre.blind, t_recv hw (ci := 12) k_a0 rfl rfl, cPre.use hw.2.1 hw.1 hw.2.2.1 hE⟩ rfl rfl hl.1 rfl (lv_room (Nat.le_of_ble_eq_true rfl)) dX12_reckons_94 ⟨(Nat.le_of_ble_eq_true rfl), (Nat.le_of_ble_eq_true rfl)⟩) hw hA (fun _ _ h => h.1) (fun v94 w_7 H locs hp hw => ?_)
            obtain ⟨_, hm, ⟨v94t, l_v94t, h_v94t, f_a0_X12_18, y_v94⟩⟩ := hp
            have hM := hM.trans hm (by decide) (by decide)
            have f_a0_X12_3 := hm.1 _ _ _ _ f_a0_X12_3 (by decide)
            refine lv_lsub hx hb dX12_reckons_97 ?_
            refine lv_topl (fun v97 e_v97 => ?_)
            refine t_callv (va_runV (As := [.long v97]) (rest := []) ⟨hx, hb, hml, hown, hts⟩ (t_X12_push l dC dI tys κ B w_7 hw.2.2.2.2 a0 k_a0 v97 v94t (by omega) (by omega) f_a0_X12_18 H.size) (cwV 1 hts (gUV tw_1537 tw_1539 ts_6_8 tw_13 tw_1540) rfl rfl rfl (by decide +kernel) ⟨(Nat.le_of_ble_eq_true rfl), (Nat.le_of_ble_eq_true rfl)⟩) ⟨cPre.blind, t_recv hw (ci := 12) k_a0 rfl rfl, cPre.use hw.2.1 hw.1 hw.2.2.1 hE⟩ rfl rfl hl.1 rfl (lv_room (Nat.le_of_ble_eq_true rfl)) dX12_reckons_98 ⟨(Nat.le_of_ble_eq_true rfl), (Nat.le_of_ble_eq_true rfl)⟩) hw hA (fun _ h => h.1) (fun w_8 H locs hp hw => ?_)
            obtain ⟨_, hm, ⟨v98t, l_v98t, h_v98t, f_a0_X12_18, y_v98⟩⟩ := hp
            have hM := hM.trans hm (by decide) (by decide)
            have f_a0_X12_3 := hm.1 _ _ _ _ f_a0_X12_3 (by decide)
            refine lv_goto (tgt := 129) hx hb dX12_reckons_101 (by decide) ?_
            obtain ⟨v129, e_v129⟩ : ∃ y : Int32, y = p8_l4 + 1 := ⟨_, rfl⟩
            refine lv_iinc (v := v129) (lv' := [(4, .int v129), (6, .int v46), (5, .int v29), (0, .ref a0), (1, .int a1), (2, .int a2), (3, .int a3)]) hx hb dX12_reckons_129 hl (k := 6) rfl e_v129.symm (by decide) rfl (fun ls hl => ?_)
            have e_v129 : v129.toInt = p8_l4.toInt + 1 := ad_i e_v129 rfl li_1 (by omega) (by omega)
            refine lv_goto (tgt := 8) hx hb dX12_reckons_132 (by decide) ?_
            exact ih_8 _ _ _ _ (by omega) ⟨w_8, v129, v98t, hw, hM, (by omega), (by omega), (by omega), (by omega), f_a0_X12_18, (by omega), (by omega), (by rw [e_v129]; omega), (lv_sub hl [3, 4, 5, 6, 0] rfl), rfl⟩
        · simp only [fa_lt, fa_le, fa_eq, li_1] at c_67
          refine lv_aload_n hx hb dX12_reckons_70 rfl (lv_at hl 2 rfl) ?_
          refine lv_aload_n hx hb dX12_reckons_71 rfl (lv_at hl 2 rfl) ?_
          refine t_getr (k1 := 62) (ci := 12) (C := RX12) (T := TX12) (N := 38) hx hb hts iX12 hown hw k_a0 rfl rfl rfl 19 (by decide) (hts _ tw_1144) (fun _ h9 => h9) dX12_reckons_72 rfl (fun v72 k_v72 f_a0_X12_19 => ?_)
          refine lv_iload hx hb dX12_reckons_75 (lv_at hl 0 rfl) ?_
          refine t_lald hx hb hw k_v72 rfl rfl (by omega) (show v46.toInt < 11 by omega) dX12_reckons_77 (fun v77 => ?_)
          refine t_callv (va_runV (As := [.long v77]) (rest := []) ⟨hx, hb, hml, hown, hts⟩ (t_X12_push l dC dI tys κ B w8 hw.2.2.2.2 a0 k_a0 v77 p8_m_a0_X12_18 (by omega) (by omega) f_a0_X12_18 H.size) (cwV 1 hts (gUV tw_1537 tw_1539 ts_6_8 tw_13 tw_1540) rfl rfl rfl (by decide +kernel) ⟨(Nat.le_of_ble_eq_true rfl), (Nat.le_of_ble_eq_true rfl)⟩) ⟨cPre.blind, t_recv hw (ci := 12) k_a0 rfl rfl, cPre.use hw.2.1 hw.1 hw.2.2.1 hE⟩ rfl rfl hl.1 rfl (lv_room (Nat.le_of_ble_eq_true rfl)) dX12_reckons_78 ⟨(Nat.le_of_ble_eq_true rfl), (Nat.le_of_ble_eq_true rfl)⟩) hw hA (fun _ h => h.1) (fun w_9 H locs hp hw => ?_)
          obtain ⟨_, hm, ⟨v78t, l_v78t, h_v78t, f_a0_X12_18, y_v78⟩⟩ := hp
          have hM := hM.trans hm (by decide) (by decide)
          have f_a0_X12_3 := hm.1 _ _ _ _ f_a0_X12_3 (by decide)
          have f_a0_X12_19 := hm.1 _ _ _ _ f_a0_X12_19 (by decide)
          refine lv_goto (tgt := 129) hx hb dX12_reckons_81 (by decide) ?_
          obtain ⟨v129, e_v129⟩ : ∃ y : Int32, y = p8_l4 + 1 := ⟨_, rfl⟩
          refine lv_iinc (v := v129) (lv' := [(4, .int v129), (6, .int v46), (5, .int v29), (0, .ref a0), (1, .int a1), (2, .int a2), (3, .int a3)]) hx hb dX12_reckons_129 hl (k := 6) rfl e_v129.symm (by decide) rfl (fun ls hl => ?_)
          have e_v129 : v129.toInt = p8_l4.toInt + 1 := ad_i e_v129 rfl li_1 (by omega) (by omega)
          refine lv_goto (tgt := 8) hx hb dX12_reckons_132 (by decide) ?_
          exact ih_8 _ _ _ _ (by omega) ⟨w_9, v129, v78t, hw, hM, (by omega), (by omega), (by omega), (by omega), f_a0_X12_18, (by omega), (by omega), (by rw [e_v129]; omega), (lv_sub hl [3, 4, 5, 6, 0] rfl), rfl⟩
      · simp only [fa_lt, fa_le, fa_eq, li_0] at c_51
        refine lv_aload_n hx hb dX12_reckons_54 rfl (lv_at hl 2 rfl) ?_
        refine lv_iload hx hb dX12_reckons_55 (lv_at hl 0 rfl) ?_
        refine lv_i2l hx hb dX12_reckons_57 rfl ?_
        refine lv_topl (fun v57 e_v57 => ?_)
        have t_v57 : v57.toInt = v46.toInt := by rw [e_v57, Int32.toInt_toInt64]
        refine t_callv (va_runV (As := [.long v57]) (rest := []) ⟨hx, hb, hml, hown, hts⟩ (t_X12_push l dC dI tys κ B w8 hw.2.2.2.2 a0 k_a0 v57 p8_m_a0_X12_18 (by omega) (by omega) f_a0_X12_18 H.size) (cwV 1 hts (gUV tw_1537 tw_1539 ts_6_8 tw_13 tw_1540) rfl rfl rfl (by decide +kernel) ⟨(Nat.le_of_ble_eq_true rfl), (Nat.le_of_ble_eq_true rfl)⟩) ⟨cPre.blind, t_recv hw (ci := 12) k_a0 rfl rfl, cPre.use hw.2.1 hw.1 hw.2.2.1 hE⟩ rfl rfl hl.1 rfl (lv_room (Nat.le_of_ble_eq_true rfl)) dX12_reckons_58 ⟨(Nat.le_of_ble_eq_true rfl), (Nat.le_of_ble_eq_true rfl)⟩) hw hA (fun _ h => h.1) (fun w_10 H locs hp hw => ?_)
        obtain ⟨_, hm, ⟨v58t, l_v58t, h_v58t, f_a0_X12_18, y_v58⟩⟩ := hp
        have hM := hM.trans hm (by decide) (by decide)
        have f_a0_X12_3 := hm.1 _ _ _ _ f_a0_X12_3 (by decide)
        refine lv_goto (tgt := 129) hx hb dX12_reckons_61 (by decide) ?_
        obtain ⟨v129, e_v129⟩ : ∃ y : Int32, y = p8_l4 + 1 := ⟨_, rfl⟩
        refine lv_iinc (v := v129) (lv' := [(4, .int v129), (6, .int v46), (5, .int v29), (0, .ref a0), (1, .int a1), (2, .int a2), (3, .int a3)]) hx hb dX12_reckons_129 hl (k := 6) rfl e_v129.symm (by decide) rfl (fun ls hl => ?_)
        have e_v129 : v129.toInt = p8_l4.toInt + 1 := ad_i e_v129 rfl li_1 (by omega) (by omega)
        refine lv_goto (tgt := 8) hx hb dX12_reckons_132 (by decide) ?_
        exact ih_8 _ _ _ _ (by omega) ⟨w_10, v129, v58t, hw, hM, (by omega), (by omega), (by omega), (by omega), f_a0_X12_18, (by omega), (by omega), (by rw [e_v129]; omega), (lv_sub hl [3, 4, 5, 6, 0] rfl), rfl⟩
  exact J8 _ _ _ _ ⟨w_1, a2, 0, hw, hM, (by omega), (by omega), (by decide), (by decide), f_a0_X12_18, (by have := li_0; omega), (by have := li_0; omega), (by rw [seg_begin]; decide), (lv_sub hl [1, 2, 3, 4, 0] rfl), rfl⟩
set_option maxHeartbeats 4000000 in
set_option maxRecDepth 100000 in
theorem t_X12_summedBy (l : Launch) (dC : Nat → ClassId) (dI : Nat → Nat → Nat) (tys : List (ClassId × FieldType)) (κ : tK) (B : Nat) (ws : va_W) (hT : Ty κ tys B ws) (a0 : Nat) (k_a0 : κ a0 = some 12) (a1 : Int32) (l_a1 : 0 ≤ a1.toInt) (h_a1 : a1.toInt ≤ 5) (hRT : RT κ ws a0) (sz : Nat) : Met l yX12_summedBy (ws_u yX12_summedBy cX12_summedBy 4 (some .long)) ({ frames := 2, cells := 0, slots := 0, locals := 54 }) (va_Pc [.ref a0, .int a1] (cPre (dC, dI) tys ws sz)) (va_Ql (fun (r : Int64) (w : va_W) => Ty κ tys B w ∧ Sm [(12, 18)] [61] κ ws w) (fun w t => cPost (dC, dI) tys w (va_A ws sz) t) (va_A ws sz)) 0 0 (va_A ws sz) := by
  refine Met.ofW (cc := cX12_summedBy) (maxL := 4) (ret := (some .long)) (by decide) rfl ?_
  intro p e s m args below meth c s₁ B0 hml hv
  obtain ⟨rfl, hsz, hP, hK, hD0, hE⟩ := hv
  have hx := B0.exec
  have hb := B0.bytes
  have hr := B0.returns
  have hts0 := atoms_spec (ws := ws_u yX12_summedBy cX12_summedBy 4 (some .long)) B0.pre
  have hts : ∀ w ∈ gT, w.before _ s = true := fun w h => hts0 w (List.mem_cons_of_mem _ h)
  have hown : s.vm.findClass RX12 = some m.cls := findClass_of_methodNamed B0.named
  have hlocks := B0.notSynchronized
  subst hsz
  have hD := hD0.self (sz := s.heap.size)
  generalize hAe : va_A ws s.heap.size = A at hD ⊢
  have hA : ∀ q : Nat, s.heap.size ≤ q → A q := fun q h => by rw [← hAe]; exact Or.inr h
  have hw : tW (dC, dI) tys κ B A s ws s.heap [] := ⟨hK, hP, hD, va_S.rf, hT⟩
  have hM : Sm [(12, 18)] [61] κ ws ws := Sm.rf
  clear hP hK hD hD0 hts0
  have hl := lv_entry ([.ref a0, .int a1]) (n := 4) (Nat.le_of_ble_eq_true rfl)
  rw [lg_entry_eq]
  generalize (lg_sl ([.ref a0, .int a1]) ++ List.replicate (4 - (lg_sl ([.ref a0, .int a1])).length) Slot.unset).toArray = ls at hl ⊢
  have hl : lv_has ls 4 [(0, .ref a0), (1, .int a1)] := hl
  refine t_start (fun QQ hQ => ?_)
  obtain ⟨g, fl, fq, fn, hm4, hrt⟩ := hRT
  refine lv_iconst (v := 0) hx hb dX12_summedBy_0 (by decide) ?_
  refine lv_istore_n (lv' := [(2, .int 0), (0, .ref a0), (1, .int a1)]) hx hb dX12_summedBy_1 rfl hl (by decide) rfl (fun ls hl => ?_)
  have J2 : ∀ (n : Nat) (H : Heap) (locs : List Loc) (ls : Array Slot), (∃ (w2 : va_W) (p2_l2 : Int32), tW (dC, dI) tys κ B A s w2 H locs ∧ Sm [(12, 18)] [61] κ ws w2 ∧ 0 ≤ p2_l2.toInt ∧ p2_l2.toInt ≤ 12 ∧ lv_has ls 4 [(0, .ref a0), (1, .int a1), (2, .int p2_l2)] ∧ (12 - p2_l2.toInt).toNat = n) → W p l e (headSpec (ws_u yX12_summedBy cX12_summedBy 4 (some .long)) ({ frames := 2, cells := 0, slots := 0, locals := 54 })).room s m ([.ref a0, .int a1] : List Value).toArray below meth c H locs 0 0 QQ (F0 m 2 ls []) := by
    refine loopT _ ?_
    intro n_2 H locs ls hI ih_2
    obtain ⟨w2, p2_l2, hw, hM, l_p2_l2, h_p2_l2, hl, hn_2⟩ := hI
    refine lv_iload_n hx hb dX12_summedBy_2 rfl (lv_at hl 2 rfl) ?_
    refine lv_aload_n hx hb dX12_summedBy_3 rfl (lv_at hl 0 rfl) ?_
    refine t_getr (k1 := 58) (ci := 12) (C := RX12) (T := TX12) (N := 38) hx hb hts iX12 hown hw k_a0 rfl rfl rfl 6 (by decide) (hts _ tw_1131) (fun _ h9 => h9) dX12_summedBy_4 rfl (fun v4 k_v4 f_a0_X12_6 => ?_)
    refine lv_iload_n hx hb dX12_summedBy_7 rfl (lv_at hl 1 rfl) ?_
    refine t_iald hx hb hw k_v4 rfl rfl (by omega) (show a1.toInt < 6 by omega) dX12_summedBy_8 (fun v8 r_v8 s_v8 q_v8 => ?_)
    have l_v8 : 0 ≤ v8.toInt := r_v8
    have h_v8 : v8.toInt ≤ 12 := s_v8
    have hn8 := (hm4.sm hM (by decide) (by decide)).getn hw.2.2.1 f_a0_X12_6 q_v8
    refine lv_icmp_ge (tgt := 84) hx hb dX12_summedBy_9 (by decide) (fun c_9 => ?_) (fun c_9 => ?_)
    · simp only [fa_lt, fa_le, fa_eq] at c_9
      refine lv_lconst (v := 0) hx hb dX12_summedBy_84 (by decide) ?_
      obtain ⟨v84, e_v84⟩ : ∃ y : Int64, y = 0 := ⟨_, rfl⟩
      refine W.eq (g2 := F0 m 85 ls [.long v84]) (by rw [e_v84]) ?_
      have t_v84 : v84.toInt = 0 := by rw [e_v84]; decide
      rw [hQ]
      refine W.widen (k := 0) (n := 0) (Nat.le_refl _) (Nat.le_refl _) ?_
      exact W.lret (v := v84) hx hb hr (fun t ht hW => ⟨⟨v84, w2, rfl, ⟨hw.2.2.2.2, hM⟩, by rw [ht]; exact hw.2.1, va_K.moved hW.alike hw.1, hw.2.2.1⟩, hw.2.2.2.1.F ht⟩) hw.2.2.2.1.2.2 dX12_summedBy_85
    · simp only [fa_lt, fa_le, fa_eq] at c_9
      refine lv_bipush (v := 48) hx hb dX12_summedBy_12 (by decide) ?_
      refine lv_iload_n hx hb dX12_summedBy_14 rfl (lv_at hl 1 rfl) ?_
      refine lv_imul hx hb dX12_summedBy_15 ?_
      refine lv_topi (fun v15 e_v15 => ?_)
      have e_v15 : v15.toInt = 48 * a1.toInt := ml_i e_v15 li_48 rfl (by omega) (by omega)
      refine lv_iconst (v := 4) hx hb dX12_summedBy_16 (by decide) ?_
      refine lv_iload_n hx hb dX12_summedBy_17 rfl (lv_at hl 2 rfl) ?_
      refine lv_imul hx hb dX12_summedBy_18 ?_
      refine lv_topi (fun v18 e_v18 => ?_)
      have e_v18 : v18.toInt = 4 * p2_l2.toInt := ml_i e_v18 li_4 rfl (by omega) (by omega)
      refine lv_iadd hx hb dX12_summedBy_19 ?_
      refine lv_topi (fun v19 e_v19 => ?_)
      have e_v19 : v19.toInt = v15.toInt + v18.toInt := ad_i e_v19 rfl rfl (by omega) (by omega)
      refine lv_istore_n (lv' := [(3, .int v19), (0, .ref a0), (1, .int a1), (2, .int p2_l2)]) hx hb dX12_summedBy_20 rfl hl (by decide) rfl (fun ls hl => ?_)
      refine lv_aload_n hx hb dX12_summedBy_21 rfl (lv_at hl 1 rfl) ?_
      refine t_getr (k1 := 57) (ci := 12) (C := RX12) (T := TX12) (N := 38) hx hb hts iX12 hown hw k_a0 rfl rfl rfl 5 (by decide) (hts _ tw_1130) (fun _ h9 => h9) dX12_summedBy_22 rfl (fun v22 k_v22 f_a0_X12_5 => ?_)
      refine lv_iload_n hx hb dX12_summedBy_25 rfl (lv_at hl 0 rfl) ?_
      refine lv_iconst (v := 2) hx hb dX12_summedBy_26 (by decide) ?_
      refine lv_iadd hx hb dX12_summedBy_27 ?_
      refine lv_topi (fun v27 e_v27 => ?_)
      have e_v27 : v27.toInt = v19.toInt + 2 := ad_i e_v27 rfl li_2 (by omega) (by omega)
      refine t_iald hx hb hw k_v22 rfl rfl (by omega) (show v27.toInt < 288 by omega) dX12_summedBy_28 (fun v28 r_v28 s_v28 q_v28 => ?_)
      have l_v28 : (-1) ≤ v28.toInt := r_v28
      have h_v28 : v28.toInt ≤ 400 := s_v28
      have hq28 := (hm4.sm hM (by decide) (by decide)).getq hw.2.2.1 f_a0_X12_5 q_v28
      have hcl := (hrt a1.toInt.toNat (by omega)).2 p2_l2.toInt.toNat (by rw [← hn8]; omega)
      have hlt28 : (fq (48 * a1.toInt.toNat + 4 * p2_l2.toInt.toNat + 2)).toInt = v28.toInt := by rw [hq28, show v27.toInt.toNat = 48 * a1.toInt.toNat + 4 * p2_l2.toInt.toNat + 2 by omega]
      have J58 : ∀ (H : Heap) (locs : List Loc) (ls : Array Slot) (w58 : va_W), tW (dC, dI) tys κ B A s w58 H locs → Sm [(12, 18)] [61] κ ws w58 → fld w58 a0 12 5 (.ref v22) → fld w58 a0 12 6 (.ref v4) → lv_has ls 4 [(0, .ref a0), (1, .int a1), (2, .int p2_l2), (3, .int v19)] → W p l e (headSpec (ws_u yX12_summedBy cX12_summedBy 4 (some .long)) ({ frames := 2, cells := 0, slots := 0, locals := 54 })).room s m ([.ref a0, .int a1] : List Value).toArray below meth c H locs 0 0 QQ (F0 m 58 ls []) := by
        intro H locs ls w58 hw hM f_a0_X12_5 f_a0_X12_6 hl
        refine lv_aload_n hx hb dX12_summedBy_58 rfl (lv_at hl 0 rfl) ?_
        refine lv_iload_n hx hb dX12_summedBy_59 rfl (lv_at hl 1 rfl) ?_
        refine lv_aload_n hx hb dX12_summedBy_60 rfl (lv_at hl 0 rfl) ?_
        refine t_getk (ci := 12) (C := RX12) (T := TX12) (N := 38) hx hb hts iX12 hown hw rfl 5 (by decide) (hts _ tw_1130) (fun _ h9 => h9) dX12_summedBy_61 f_a0_X12_5 ?_
        refine lv_iload_n hx hb dX12_summedBy_64 rfl (lv_at hl 3 rfl) ?_
        refine t_iald hx hb hw k_v22 rfl rfl (by omega) (show v19.toInt < 288 by omega) dX12_summedBy_65 (fun v65 r_v65 s_v65 q_v65 => ?_)
        have l_v65 : (-1) ≤ v65.toInt := r_v65
        have h_v65 : v65.toInt ≤ 400 := s_v65
        refine lv_aload_n hx hb dX12_summedBy_66 rfl (lv_at hl 0 rfl) ?_
        refine t_getk (ci := 12) (C := RX12) (T := TX12) (N := 38) hx hb hts iX12 hown hw rfl 5 (by decide) (hts _ tw_1130) (fun _ h9 => h9) dX12_summedBy_67 f_a0_X12_5 ?_
        refine lv_iload_n hx hb dX12_summedBy_70 rfl (lv_at hl 3 rfl) ?_
        refine lv_iconst (v := 1) hx hb dX12_summedBy_71 (by decide) ?_
        refine lv_iadd hx hb dX12_summedBy_72 ?_
        refine lv_topi (fun v72 e_v72 => ?_)
        have e_v72 : v72.toInt = v19.toInt + 1 := ad_i e_v72 rfl li_1 (by omega) (by omega)
        refine t_iald hx hb hw k_v22 rfl rfl (by omega) (show v72.toInt < 288 by omega) dX12_summedBy_73 (fun v73 r_v73 s_v73 q_v73 => ?_)
        have l_v73 : (-1) ≤ v73.toInt := r_v73
        have h_v73 : v73.toInt ≤ 400 := s_v73
        have hq65 := (hm4.sm hM (by decide) (by decide)).getq hw.2.2.1 f_a0_X12_5 q_v65
        have hq73 := (hm4.sm hM (by decide) (by decide)).getq hw.2.2.1 f_a0_X12_5 q_v73
        have hs74 : seg g a1.toInt.toNat v65.toInt v73.toInt := by
          rw [hq65, hq73, show v19.toInt.toNat = 48 * a1.toInt.toNat + 4 * p2_l2.toInt.toNat by omega, show v72.toInt.toNat = 48 * a1.toInt.toNat + 4 * p2_l2.toInt.toNat + 1 by omega]
          exact hcl.1
        refine t_calll (va_runV (As := [.int a1, .int v65, .int v73]) (rest := []) ⟨hx, hb, hml, hown, hts⟩ (t_X12_reckons l dC dI tys κ B w58 hw.2.2.2.2 a0 k_a0 a1 (by omega) (by omega) v65 (by omega) (by omega) v73 (by omega) (by omega) ((hm4.sm hM (by decide) (by decide)).sg hs74) H.size) (cwV 3 hts (gUV tw_1533 tw_1535 ts_6_7 tw_13 tw_1536) rfl rfl rfl (by decide +kernel) ⟨(Nat.le_of_ble_eq_true rfl), (Nat.le_of_ble_eq_true rfl)⟩) ⟨cPre.blind, t_recv hw (ci := 12) k_a0 rfl rfl, cPre.use hw.2.1 hw.1 hw.2.2.1 hE⟩ rfl rfl hl.1 rfl (lv_room (Nat.le_of_ble_eq_true rfl)) dX12_summedBy_74 ⟨(Nat.le_of_ble_eq_true rfl), (Nat.le_of_ble_eq_true rfl)⟩) hw hA (fun _ _ h => h.1) (fun v74 w_1 H locs hp hw => ?_)
        obtain ⟨_, hm⟩ := hp
        have hM := hM.trans hm (by decide) (by decide)
        have f_a0_X12_5 := hm.1 _ _ _ _ f_a0_X12_5 (by decide)
        have f_a0_X12_6 := hm.1 _ _ _ _ f_a0_X12_6 (by decide)
        rw [hQ]
        refine W.widen (k := 0) (n := 0) (Nat.le_refl _) (Nat.le_refl _) ?_
        exact W.lret (v := v74) hx hb hr (fun t ht hW => ⟨⟨v74, w_1, rfl, ⟨hw.2.2.2.2, hM⟩, by rw [ht]; exact hw.2.1, va_K.moved hW.alike hw.1, hw.2.2.1⟩, hw.2.2.2.1.F ht⟩) hw.2.2.2.1.2.2 dX12_summedBy_77
      refine lv_if_lt (tgt := 58) hx hb dX12_summedBy_29 (by decide) (fun c_29 => ?_) (fun c_29 => ?_)
      · simp only [fa_lt, fa_le, fa_eq, li_0] at c_29
        exact J58 _ _ _ w2 hw hM f_a0_X12_5 f_a0_X12_6 (lv_sub hl [1, 2, 3, 0] rfl)
      · simp only [fa_lt, fa_le, fa_eq, li_0] at c_29
        refine lv_aload_n hx hb dX12_summedBy_32 rfl (lv_at hl 1 rfl) ?_
        refine lv_iload_n hx hb dX12_summedBy_33 rfl (lv_at hl 2 rfl) ?_
        refine lv_aload_n hx hb dX12_summedBy_34 rfl (lv_at hl 1 rfl) ?_
        refine t_getk (ci := 12) (C := RX12) (T := TX12) (N := 38) hx hb hts iX12 hown hw rfl 5 (by decide) (hts _ tw_1130) (fun _ h9 => h9) dX12_summedBy_35 f_a0_X12_5 ?_
        refine lv_iload_n hx hb dX12_summedBy_38 rfl (lv_at hl 0 rfl) ?_
        refine lv_iconst (v := 2) hx hb dX12_summedBy_39 (by decide) ?_
        refine lv_iadd hx hb dX12_summedBy_40 ?_
        refine lv_topi (fun v40 e_v40 => ?_)
        have e_v40 : v40.toInt = v19.toInt + 2 := ad_i e_v40 rfl li_2 (by omega) (by omega)
        refine t_iald hx hb hw k_v22 rfl rfl (by omega) (show v40.toInt < 288 by omega) dX12_summedBy_41 (fun v41 r_v41 s_v41 q_v41 => ?_)
        have l_v41 : (-1) ≤ v41.toInt := r_v41
        have h_v41 : v41.toInt ≤ 400 := s_v41
        refine lv_aload_n hx hb dX12_summedBy_42 rfl (lv_at hl 1 rfl) ?_
        refine t_getk (ci := 12) (C := RX12) (T := TX12) (N := 38) hx hb hts iX12 hown hw rfl 5 (by decide) (hts _ tw_1130) (fun _ h9 => h9) dX12_summedBy_43 f_a0_X12_5 ?_
        refine lv_iload_n hx hb dX12_summedBy_46 rfl (lv_at hl 0 rfl) ?_
        refine lv_iconst (v := 3) hx hb dX12_summedBy_47 (by decide) ?_
        refine lv_iadd hx hb dX12_summedBy_48 ?_
        refine lv_topi (fun v48 e_v48 => ?_)
        have e_v48 : v48.toInt = v19.toInt + 3 := ad_i e_v48 rfl li_3 (by omega) (by omega)
        refine t_iald hx hb hw k_v22 rfl rfl (by omega) (show v48.toInt < 288 by omega) dX12_summedBy_49 (fun v49 r_v49 s_v49 q_v49 => ?_)
        have l_v49 : (-1) ≤ v49.toInt := r_v49
        have h_v49 : v49.toInt ≤ 400 := s_v49
        have hq41 := (hm4.sm hM (by decide) (by decide)).getq hw.2.2.1 f_a0_X12_5 q_v41
        have hq49 := (hm4.sm hM (by decide) (by decide)).getq hw.2.2.1 f_a0_X12_5 q_v49
        have hs50 : seg g a1.toInt.toNat v41.toInt v49.toInt := by
          rw [hq41, hq49, show v40.toInt.toNat = 48 * a1.toInt.toNat + 4 * p2_l2.toInt.toNat + 2 by omega, show v48.toInt.toNat = 48 * a1.toInt.toNat + 4 * p2_l2.toInt.toNat + 3 by omega]
          rcases hcl.2 with z | z
          · omega
          · exact z
        refine t_calll (va_runV (As := [.int a1, .int v41, .int v49]) (rest := []) ⟨hx, hb, hml, hown, hts⟩ (t_X12_reckons l dC dI tys κ B w2 hw.2.2.2.2 a0 k_a0 a1 (by omega) (by omega) v41 (by omega) (by omega) v49 (by omega) (by omega) ((hm4.sm hM (by decide) (by decide)).sg hs50) H.size) (cwV 3 hts (gUV tw_1533 tw_1535 ts_6_7 tw_13 tw_1536) rfl rfl rfl (by decide +kernel) ⟨(Nat.le_of_ble_eq_true rfl), (Nat.le_of_ble_eq_true rfl)⟩) ⟨cPre.blind, t_recv hw (ci := 12) k_a0 rfl rfl, cPre.use hw.2.1 hw.1 hw.2.2.1 hE⟩ rfl rfl hl.1 rfl (lv_room (Nat.le_of_ble_eq_true rfl)) dX12_summedBy_50 ⟨(Nat.le_of_ble_eq_true rfl), (Nat.le_of_ble_eq_true rfl)⟩) hw hA (fun _ _ h => h.1) (fun v50 w_2 H locs hp hw => ?_)
        obtain ⟨_, hm⟩ := hp
        have hM := hM.trans hm (by decide) (by decide)
        have f_a0_X12_6 := hm.1 _ _ _ _ f_a0_X12_6 (by decide)
        have f_a0_X12_5 := hm.1 _ _ _ _ f_a0_X12_5 (by decide)
        refine lv_lconst (v := 1) hx hb dX12_summedBy_53 (by decide) ?_
        obtain ⟨v53, e_v53⟩ : ∃ y : Int64, y = 1 := ⟨_, rfl⟩
        refine W.eq (g2 := F0 m 54 ls [.long v53, .long v50]) (by rw [e_v53]) ?_
        have t_v53 : v53.toInt = 1 := by rw [e_v53]; decide
        refine W.lcmp hx hb dX12_summedBy_54 ?_
        refine lv_topi (fun v54 e_v54 => ?_)
        have l_v54 := i32_lo v54
        have h_v54 := i32_hi v54
        have g_v54 := lgc e_v54
        refine lv_if_ne (tgt := 78) hx hb dX12_summedBy_55 (by decide) (fun c_55 => ?_) (fun c_55 => ?_)
        · simp only [fa_lt, fa_le, fa_eq, li_0] at c_55
          obtain ⟨v78, e_v78⟩ : ∃ y : Int32, y = p2_l2 + 1 := ⟨_, rfl⟩
          refine lv_iinc (v := v78) (lv' := [(2, .int v78), (3, .int v19), (0, .ref a0), (1, .int a1)]) hx hb dX12_summedBy_78 hl (k := 3) rfl e_v78.symm (by decide) rfl (fun ls hl => ?_)
          have e_v78 : v78.toInt = p2_l2.toInt + 1 := ad_i e_v78 rfl li_1 (by omega) (by omega)
          refine lv_goto (tgt := 2) hx hb dX12_summedBy_81 (by decide) ?_
          exact ih_2 _ _ _ _ (by omega) ⟨w_2, v78, hw, hM, (by omega), (by omega), (lv_sub hl [2, 3, 0] rfl), rfl⟩
        · simp only [fa_lt, fa_le, fa_eq, li_0] at c_55
          exact J58 _ _ _ w_2 hw hM f_a0_X12_5 f_a0_X12_6 (lv_sub hl [1, 2, 3, 0] rfl)
  exact J2 _ _ _ _ ⟨ws, 0, hw, hM, (by decide), (by decide), (lv_sub hl [1, 2, 0] rfl), rfl⟩
set_option maxHeartbeats 4000000 in
set_option maxRecDepth 100000 in
theorem t_X12_wants (l : Launch) (dC : Nat → ClassId) (dI : Nat → Nat → Nat) (tys : List (ClassId × FieldType)) (κ : tK) (B : Nat) (ws : va_W) (hT : Ty κ tys B ws) (a0 : Nat) (k_a0 : κ a0 = some 12) (a1 : Int32) (l_a1 : 0 ≤ a1.toInt) (h_a1 : a1.toInt ≤ 5) (a2 : Int32) (l_a2 : 0 ≤ a2.toInt) (h_a2 : a2.toInt ≤ 5) (hRT : RT κ ws a0) (sz : Nat) : Met l yX12_wants (ws_u yX12_wants cX12_wants 4 (some .long)) ({ frames := 3, cells := 0, slots := 0, locals := 77 }) (va_Pc [.ref a0, .int a1, .int a2] (cPre (dC, dI) tys ws sz)) (va_Ql (fun (r : Int64) (w : va_W) => Ty κ tys B w ∧ Sm [(12, 18)] [61, 62] κ ws w) (fun w t => cPost (dC, dI) tys w (va_A ws sz) t) (va_A ws sz)) 0 0 (va_A ws sz) := by
  refine Met.ofW (cc := cX12_wants) (maxL := 4) (ret := (some .long)) (by decide) rfl ?_
  intro p e s m args below meth c s₁ B0 hml hv
  obtain ⟨rfl, hsz, hP, hK, hD0, hE⟩ := hv
  have hx := B0.exec
  have hb := B0.bytes
  have hr := B0.returns
  have hts0 := atoms_spec (ws := ws_u yX12_wants cX12_wants 4 (some .long)) B0.pre
  have hts : ∀ w ∈ gT, w.before _ s = true := fun w h => hts0 w (List.mem_cons_of_mem _ h)
  have hown : s.vm.findClass RX12 = some m.cls := findClass_of_methodNamed B0.named
  have hlocks := B0.notSynchronized
  subst hsz
  have hD := hD0.self (sz := s.heap.size)
  generalize hAe : va_A ws s.heap.size = A at hD ⊢
  have hA : ∀ q : Nat, s.heap.size ≤ q → A q := fun q h => by rw [← hAe]; exact Or.inr h
  have hw : tW (dC, dI) tys κ B A s ws s.heap [] := ⟨hK, hP, hD, va_S.rf, hT⟩
  have hM : Sm [(12, 18)] [61, 62] κ ws ws := Sm.rf
  clear hP hK hD hD0 hts0
  have hl := lv_entry ([.ref a0, .int a1, .int a2]) (n := 4) (Nat.le_of_ble_eq_true rfl)
  rw [lg_entry_eq]
  generalize (lg_sl ([.ref a0, .int a1, .int a2]) ++ List.replicate (4 - (lg_sl ([.ref a0, .int a1, .int a2])).length) Slot.unset).toArray = ls at hl ⊢
  have hl : lv_has ls 4 [(0, .ref a0), (1, .int a1), (2, .int a2)] := hl
  refine t_start (fun QQ hQ => ?_)
  refine lv_aload_n hx hb dX12_wants_0 rfl (lv_at hl 0 rfl) ?_
  refine t_getr (k1 := 63) (ci := 12) (C := RX12) (T := TX12) (N := 38) hx hb hts iX12 hown hw k_a0 rfl rfl rfl 20 (by decide) (hts _ tw_1145) (fun _ h9 => h9) dX12_wants_1 rfl (fun v1 k_v1 f_a0_X12_20 => ?_)
  refine lv_bipush (v := 70) hx hb dX12_wants_4 (by decide) ?_
  refine lv_bipush (v := 6) hx hb dX12_wants_6 (by decide) ?_
  refine lv_iload_n hx hb dX12_wants_8 rfl (lv_at hl 1 rfl) ?_
  refine lv_imul hx hb dX12_wants_9 ?_
  refine lv_topi (fun v9 e_v9 => ?_)
  have e_v9 : v9.toInt = 6 * a1.toInt := ml_i e_v9 li_6 rfl (by omega) (by omega)
  refine lv_iadd hx hb dX12_wants_10 ?_
  refine lv_topi (fun v10 e_v10 => ?_)
  have e_v10 : v10.toInt = 70 + v9.toInt := ad_i e_v10 li_70 rfl (by omega) (by omega)
  refine lv_iload_n hx hb dX12_wants_11 rfl (lv_at hl 2 rfl) ?_
  refine lv_iadd hx hb dX12_wants_12 ?_
  refine lv_topi (fun v12 e_v12 => ?_)
  have e_v12 : v12.toInt = v10.toInt + a2.toInt := ad_i e_v12 rfl rfl (by omega) (by omega)
  refine t_iald hx hb hw k_v1 rfl rfl (by omega) (show v12.toInt < 306 by omega) dX12_wants_13 (fun v13 r_v13 s_v13 q_v13 => ?_)
  have l_v13 := i32_lo v13
  have h_v13 := i32_hi v13
  refine lv_istore_n (lv' := [(3, .int v13), (0, .ref a0), (1, .int a1), (2, .int a2)]) hx hb dX12_wants_14 rfl hl (by decide) rfl (fun ls hl => ?_)
  refine lv_aload_n hx hb dX12_wants_15 rfl (lv_at hl 1 rfl) ?_
  refine t_geti (ci := 12) (C := RX12) (T := TX12) (N := 38) hx hb hts iX12 hown hw k_a0 rfl rfl rfl 21 (by decide) (hts _ tw_1146) (fun _ h9 => h9) dX12_wants_16 rfl (fun v16 l_v16 h_v16 f_a0_X12_21 => ?_)
  have l_v16 : (-1) ≤ v16.toInt := l_v16
  have h_v16 : v16.toInt ≤ 5 := h_v16
  refine lv_if_ge (tgt := 32) hx hb dX12_wants_19 (by decide) (fun c_19 => ?_) (fun c_19 => ?_)
  · simp only [fa_lt, fa_le, fa_eq, li_0] at c_19
    refine lv_aload_n hx hb dX12_wants_32 rfl (lv_at hl 1 rfl) ?_
    refine t_getr (k1 := 62) (ci := 12) (C := RX12) (T := TX12) (N := 38) hx hb hts iX12 hown hw k_a0 rfl rfl rfl 19 (by decide) (hts _ tw_1144) (fun _ h9 => h9) dX12_wants_33 rfl (fun v33 k_v33 f_a0_X12_19 => ?_)
    refine lv_iconst (v := 0) hx hb dX12_wants_36 (by decide) ?_
    refine lv_iload_n hx hb dX12_wants_37 rfl (lv_at hl 2 rfl) ?_
    refine lv_i2l hx hb dX12_wants_38 rfl ?_
    refine lv_topl (fun v38 e_v38 => ?_)
    have t_v38 : v38.toInt = a1.toInt := by rw [e_v38, Int32.toInt_toInt64]
    refine t_last hx hb hw k_v33 rfl rfl (by decide) (by decide) dX12_wants_39 (fun w_1 H locs y hw u => ?_)
    have hM := hM.up2 u k_v33 (by decide)
    have f_a0_X12_20 := u.1 _ _ _ _ f_a0_X12_20
    have f_a0_X12_21 := u.1 _ _ _ _ f_a0_X12_21
    have f_a0_X12_19 := u.1 _ _ _ _ f_a0_X12_19
    refine lv_aload_n hx hb dX12_wants_40 rfl (lv_at hl 1 rfl) ?_
    refine t_getk (ci := 12) (C := RX12) (T := TX12) (N := 38) hx hb hts iX12 hown hw rfl 19 (by decide) (hts _ tw_1144) (fun _ h9 => h9) dX12_wants_41 f_a0_X12_19 ?_
    refine lv_iconst (v := 1) hx hb dX12_wants_44 (by decide) ?_
    refine lv_iload_n hx hb dX12_wants_45 rfl (lv_at hl 3 rfl) ?_
    refine lv_i2l hx hb dX12_wants_46 rfl ?_
    refine lv_topl (fun v46 e_v46 => ?_)
    have t_v46 : v46.toInt = a2.toInt := by rw [e_v46, Int32.toInt_toInt64]
    refine t_last hx hb hw k_v33 rfl rfl (by decide) (by decide) dX12_wants_47 (fun w_2 H locs y hw u => ?_)
    have hM := hM.up2 u k_v33 (by decide)
    have f_a0_X12_20 := u.1 _ _ _ _ f_a0_X12_20
    have f_a0_X12_21 := u.1 _ _ _ _ f_a0_X12_21
    have f_a0_X12_19 := u.1 _ _ _ _ f_a0_X12_19
    refine lv_aload_n hx hb dX12_wants_48 rfl (lv_at hl 1 rfl) ?_
    refine t_getk (ci := 12) (C := RX12) (T := TX12) (N := 38) hx hb hts iX12 hown hw rfl 19 (by decide) (hts _ tw_1144) (fun _ h9 => h9) dX12_wants_49 f_a0_X12_19 ?_
    refine lv_iconst (v := 2) hx hb dX12_wants_52 (by decide) ?_
    refine lv_aload_n hx hb dX12_wants_53 rfl (lv_at hl 1 rfl) ?_
    refine lv_iload_n hx hb dX12_wants_54 rfl (lv_at hl 3 rfl) ?_
    refine lv_iconst (v := 0) hx hb dX12_wants_55 (by decide) ?_
    refine t_calli (va_runV (As := [.int a2, .int 0]) (rest := [.int 2, .ref v33]) ⟨hx, hb, hml, hown, hts⟩ (t_X12_boyOf l dC dI tys κ B w_2 hw.2.2.2.2 a0 k_a0 a2 (by omega) (by omega) 0 (by decide) (by decide) H.size) (cwV 2 hts (gUV tw_1453 tw_1455 ts_5_8 tw_13 tw_1456) rfl rfl rfl (by decide +kernel) ⟨(Nat.le_of_ble_eq_true rfl), (Nat.le_of_ble_eq_true rfl)⟩) ⟨cPre.blind, t_recv hw (ci := 12) k_a0 rfl rfl, cPre.use hw.2.1 hw.1 hw.2.2.1 hE⟩ rfl rfl hl.1 rfl (lv_room (Nat.le_of_ble_eq_true rfl)) dX12_wants_56 ⟨(Nat.le_of_ble_eq_true rfl), (Nat.le_of_ble_eq_true rfl)⟩) hw hA (fun _ _ h => h.1) (fun v56 w_3 H locs hp hw => ?_)
    obtain ⟨_, hm⟩ := hp
    have l_v56 := i32_lo v56
    have h_v56 := i32_hi v56
    have hM := hM.trans hm (by decide) (by decide)
    have f_a0_X12_20 := hm.1 _ _ _ _ f_a0_X12_20 (by decide)
    have f_a0_X12_21 := hm.1 _ _ _ _ f_a0_X12_21 (by decide)
    have f_a0_X12_19 := hm.1 _ _ _ _ f_a0_X12_19 (by decide)
    refine lv_i2l hx hb dX12_wants_59 rfl ?_
    refine lv_topl (fun v59 e_v59 => ?_)
    have t_v59 : v59.toInt = v56.toInt := by rw [e_v59, Int32.toInt_toInt64]
    refine t_last hx hb hw k_v33 rfl rfl (by decide) (by decide) dX12_wants_60 (fun w_4 H locs y hw u => ?_)
    have hM := hM.up2 u k_v33 (by decide)
    have f_a0_X12_20 := u.1 _ _ _ _ f_a0_X12_20
    have f_a0_X12_21 := u.1 _ _ _ _ f_a0_X12_21
    have f_a0_X12_19 := u.1 _ _ _ _ f_a0_X12_19
    refine lv_aload_n hx hb dX12_wants_61 rfl (lv_at hl 1 rfl) ?_
    refine t_getk (ci := 12) (C := RX12) (T := TX12) (N := 38) hx hb hts iX12 hown hw rfl 19 (by decide) (hts _ tw_1144) (fun _ h9 => h9) dX12_wants_62 f_a0_X12_19 ?_
    refine lv_iconst (v := 3) hx hb dX12_wants_65 (by decide) ?_
    refine lv_aload_n hx hb dX12_wants_66 rfl (lv_at hl 1 rfl) ?_
    refine lv_iload_n hx hb dX12_wants_67 rfl (lv_at hl 3 rfl) ?_
    refine lv_iconst (v := 1) hx hb dX12_wants_68 (by decide) ?_
    refine t_calli (va_runV (As := [.int a2, .int 1]) (rest := [.int 3, .ref v33]) ⟨hx, hb, hml, hown, hts⟩ (t_X12_boyOf l dC dI tys κ B w_4 hw.2.2.2.2 a0 k_a0 a2 (by omega) (by omega) 1 (by decide) (by decide) H.size) (cwV 2 hts (gUV tw_1453 tw_1455 ts_5_8 tw_13 tw_1456) rfl rfl rfl (by decide +kernel) ⟨(Nat.le_of_ble_eq_true rfl), (Nat.le_of_ble_eq_true rfl)⟩) ⟨cPre.blind, t_recv hw (ci := 12) k_a0 rfl rfl, cPre.use hw.2.1 hw.1 hw.2.2.1 hE⟩ rfl rfl hl.1 rfl (lv_room (Nat.le_of_ble_eq_true rfl)) dX12_wants_69 ⟨(Nat.le_of_ble_eq_true rfl), (Nat.le_of_ble_eq_true rfl)⟩) hw hA (fun _ _ h => h.1) (fun v69 w_5 H locs hp hw => ?_)
    obtain ⟨_, hm⟩ := hp
    have l_v69 := i32_lo v69
    have h_v69 := i32_hi v69
    have hM := hM.trans hm (by decide) (by decide)
    have f_a0_X12_20 := hm.1 _ _ _ _ f_a0_X12_20 (by decide)
    have f_a0_X12_21 := hm.1 _ _ _ _ f_a0_X12_21 (by decide)
    have f_a0_X12_19 := hm.1 _ _ _ _ f_a0_X12_19 (by decide)
    refine lv_i2l hx hb dX12_wants_72 rfl ?_
    refine lv_topl (fun v72 e_v72 => ?_)
    have t_v72 : v72.toInt = v69.toInt := by rw [e_v72, Int32.toInt_toInt64]
    refine t_last hx hb hw k_v33 rfl rfl (by decide) (by decide) dX12_wants_73 (fun w_6 H locs y hw u => ?_)
    have hM := hM.up2 u k_v33 (by decide)
    have f_a0_X12_20 := u.1 _ _ _ _ f_a0_X12_20
    have f_a0_X12_21 := u.1 _ _ _ _ f_a0_X12_21
    have f_a0_X12_19 := u.1 _ _ _ _ f_a0_X12_19
    refine lv_aload_n hx hb dX12_wants_74 rfl (lv_at hl 1 rfl) ?_
    refine t_getk (ci := 12) (C := RX12) (T := TX12) (N := 38) hx hb hts iX12 hown hw rfl 19 (by decide) (hts _ tw_1144) (fun _ h9 => h9) dX12_wants_75 f_a0_X12_19 ?_
    refine lv_iconst (v := 4) hx hb dX12_wants_78 (by decide) ?_
    refine lv_iload_n hx hb dX12_wants_79 rfl (lv_at hl 0 rfl) ?_
    refine lv_i2l hx hb dX12_wants_80 rfl ?_
    refine lv_topl (fun v80 e_v80 => ?_)
    have t_v80 : v80.toInt = v13.toInt := by rw [e_v80, Int32.toInt_toInt64]
    refine t_last hx hb hw k_v33 rfl rfl (by decide) (by decide) dX12_wants_81 (fun w_7 H locs y hw u => ?_)
    have hM := hM.up2 u k_v33 (by decide)
    have f_a0_X12_20 := u.1 _ _ _ _ f_a0_X12_20
    have f_a0_X12_21 := u.1 _ _ _ _ f_a0_X12_21
    have f_a0_X12_19 := u.1 _ _ _ _ f_a0_X12_19
    refine lv_aload_n hx hb dX12_wants_82 rfl (lv_at hl 1 rfl) ?_
    refine t_getk (ci := 12) (C := RX12) (T := TX12) (N := 38) hx hb hts iX12 hown hw rfl 19 (by decide) (hts _ tw_1144) (fun _ h9 => h9) dX12_wants_83 f_a0_X12_19 ?_
    refine lv_iconst (v := 5) hx hb dX12_wants_86 (by decide) ?_
    refine lv_aload_n hx hb dX12_wants_87 rfl (lv_at hl 1 rfl) ?_
    refine t_getk (ci := 12) (C := RX12) (T := TX12) (N := 38) hx hb hts iX12 hown hw rfl 20 (by decide) (hts _ tw_1145) (fun _ h9 => h9) dX12_wants_88 f_a0_X12_20 ?_
    refine lv_bipush (v := 52) hx hb dX12_wants_91 (by decide) ?_
    refine lv_iload_n hx hb dX12_wants_93 rfl (lv_at hl 3 rfl) ?_
    refine lv_iadd hx hb dX12_wants_94 ?_
    refine lv_topi (fun v94 e_v94 => ?_)
    have e_v94 : v94.toInt = 52 + a2.toInt := ad_i e_v94 li_52 rfl (by omega) (by omega)
    refine t_iald hx hb hw k_v1 rfl rfl (by omega) (show v94.toInt < 306 by omega) dX12_wants_95 (fun v95 r_v95 s_v95 q_v95 => ?_)
    have l_v95 := i32_lo v95
    have h_v95 := i32_hi v95
    refine lv_i2l hx hb dX12_wants_96 rfl ?_
    refine lv_topl (fun v96 e_v96 => ?_)
    have t_v96 : v96.toInt = v95.toInt := by rw [e_v96, Int32.toInt_toInt64]
    refine t_last hx hb hw k_v33 rfl rfl (by decide) (by decide) dX12_wants_97 (fun w_8 H locs y hw u => ?_)
    have hM := hM.up2 u k_v33 (by decide)
    have f_a0_X12_20 := u.1 _ _ _ _ f_a0_X12_20
    have f_a0_X12_21 := u.1 _ _ _ _ f_a0_X12_21
    have f_a0_X12_19 := u.1 _ _ _ _ f_a0_X12_19
    refine lv_aload_n hx hb dX12_wants_98 rfl (lv_at hl 1 rfl) ?_
    refine t_getk (ci := 12) (C := RX12) (T := TX12) (N := 38) hx hb hts iX12 hown hw rfl 19 (by decide) (hts _ tw_1144) (fun _ h9 => h9) dX12_wants_99 f_a0_X12_19 ?_
    refine lv_bipush (v := 6) hx hb dX12_wants_102 (by decide) ?_
    refine lv_aload_n hx hb dX12_wants_104 rfl (lv_at hl 1 rfl) ?_
    refine lv_iload_n hx hb dX12_wants_105 rfl (lv_at hl 3 rfl) ?_
    refine lv_iconst (v := 2) hx hb dX12_wants_106 (by decide) ?_
    refine t_calli (va_runV (As := [.int a2, .int 2]) (rest := [.int 6, .ref v33]) ⟨hx, hb, hml, hown, hts⟩ (t_X12_boyOf l dC dI tys κ B w_8 hw.2.2.2.2 a0 k_a0 a2 (by omega) (by omega) 2 (by decide) (by decide) H.size) (cwV 2 hts (gUV tw_1453 tw_1455 ts_5_8 tw_13 tw_1456) rfl rfl rfl (by decide +kernel) ⟨(Nat.le_of_ble_eq_true rfl), (Nat.le_of_ble_eq_true rfl)⟩) ⟨cPre.blind, t_recv hw (ci := 12) k_a0 rfl rfl, cPre.use hw.2.1 hw.1 hw.2.2.1 hE⟩ rfl rfl hl.1 rfl (lv_room (Nat.le_of_ble_eq_true rfl)) dX12_wants_107 ⟨(Nat.le_of_ble_eq_true rfl), (Nat.le_of_ble_eq_true rfl)⟩) hw hA (fun _ _ h => h.1) (fun v107 w_9 H locs hp hw => ?_)
    obtain ⟨_, hm⟩ := hp
    have l_v107 := i32_lo v107
    have h_v107 := i32_hi v107
    have hM := hM.trans hm (by decide) (by decide)
    have f_a0_X12_20 := hm.1 _ _ _ _ f_a0_X12_20 (by decide)
    have f_a0_X12_21 := hm.1 _ _ _ _ f_a0_X12_21 (by decide)
    have f_a0_X12_19 := hm.1 _ _ _ _ f_a0_X12_19 (by decide)
    refine lv_i2l hx hb dX12_wants_110 rfl ?_
    refine lv_topl (fun v110 e_v110 => ?_)
    have t_v110 : v110.toInt = v107.toInt := by rw [e_v110, Int32.toInt_toInt64]
    refine t_last hx hb hw k_v33 rfl rfl (by decide) (by decide) dX12_wants_111 (fun w_10 H locs y hw u => ?_)
    have hM := hM.up2 u k_v33 (by decide)
    have f_a0_X12_20 := u.1 _ _ _ _ f_a0_X12_20
    have f_a0_X12_21 := u.1 _ _ _ _ f_a0_X12_21
    have f_a0_X12_19 := u.1 _ _ _ _ f_a0_X12_19
    refine lv_aload_n hx hb dX12_wants_112 rfl (lv_at hl 1 rfl) ?_
    refine t_getk (ci := 12) (C := RX12) (T := TX12) (N := 38) hx hb hts iX12 hown hw rfl 19 (by decide) (hts _ tw_1144) (fun _ h9 => h9) dX12_wants_113 f_a0_X12_19 ?_
    refine lv_bipush (v := 7) hx hb dX12_wants_116 (by decide) ?_
    refine lv_iload_n hx hb dX12_wants_118 rfl (lv_at hl 2 rfl) ?_
    refine lv_iload_n hx hb dX12_wants_119 rfl (lv_at hl 3 rfl) ?_
    have J128 : ∀ (H : Heap) (locs : List Loc) (ls : Array Slot) (w128 : va_W) (p128_s0 : Int64), tW (dC, dI) tys κ B A s w128 H locs → Sm [(12, 18)] [61, 62] κ ws w128 → fld w128 a0 12 19 (.ref v33) → fld w128 a0 12 20 (.ref v1) → fld w128 a0 12 21 (.int v16) → lv_has ls 4 [(0, .ref a0), (1, .int a1), (2, .int a2), (3, .int v13)] → W p l e (headSpec (ws_u yX12_wants cX12_wants 4 (some .long)) ({ frames := 3, cells := 0, slots := 0, locals := 77 })).room s m ([.ref a0, .int a1, .int a2] : List Value).toArray below meth c H locs 0 0 QQ (F0 m 128 ls [.long p128_s0, .int 7, .ref v33]) := by
      intro H locs ls w128 p128_s0 hw hM f_a0_X12_19 f_a0_X12_20 f_a0_X12_21 hl
      refine t_last hx hb hw k_v33 rfl rfl (by decide) (by decide) dX12_wants_128 (fun w_11 H locs y hw u => ?_)
      have hM := hM.up2 u k_v33 (by decide)
      have f_a0_X12_19 := u.1 _ _ _ _ f_a0_X12_19
      have f_a0_X12_20 := u.1 _ _ _ _ f_a0_X12_20
      have f_a0_X12_21 := u.1 _ _ _ _ f_a0_X12_21
      refine lv_aload_n hx hb dX12_wants_129 rfl (lv_at hl 0 rfl) ?_
      refine t_getk (ci := 12) (C := RX12) (T := TX12) (N := 38) hx hb hts iX12 hown hw rfl 19 (by decide) (hts _ tw_1144) (fun _ h9 => h9) dX12_wants_130 f_a0_X12_19 ?_
      refine lv_bipush (v := 8) hx hb dX12_wants_133 (by decide) ?_
      refine lv_aload_n hx hb dX12_wants_135 rfl (lv_at hl 0 rfl) ?_
      refine t_getk (ci := 12) (C := RX12) (T := TX12) (N := 38) hx hb hts iX12 hown hw rfl 20 (by decide) (hts _ tw_1145) (fun _ h9 => h9) dX12_wants_136 f_a0_X12_20 ?_
      refine lv_bipush (v := 10) hx hb dX12_wants_139 (by decide) ?_
      refine t_iald hx hb hw k_v1 rfl rfl (by decide) (by decide) dX12_wants_141 (fun v141 r_v141 s_v141 f_v1_M_said_10 => ?_)
      have l_v141 : 0 ≤ v141.toInt := by rw [iv_63_10] at r_v141; exact r_v141
      have h_v141 : v141.toInt ≤ 1999 := by rw [iv_63_10] at s_v141; exact s_v141
      refine lv_i2l hx hb dX12_wants_142 rfl ?_
      refine lv_topl (fun v142 e_v142 => ?_)
      have t_v142 : v142.toInt = v141.toInt := by rw [e_v142, Int32.toInt_toInt64]
      refine t_last hx hb hw k_v33 rfl rfl (by decide) (by decide) dX12_wants_143 (fun w_12 H locs y hw u => ?_)
      have hM := hM.up2 u k_v33 (by decide)
      have f_a0_X12_19 := u.1 _ _ _ _ f_a0_X12_19
      have f_a0_X12_20 := u.1 _ _ _ _ f_a0_X12_20
      have f_a0_X12_21 := u.1 _ _ _ _ f_a0_X12_21
      have f_v1_M_said_10 := u.elt f_v1_M_said_10 (ne_k k_v1 k_v33 (by decide))
      refine lv_aload_n hx hb dX12_wants_144 rfl (lv_at hl 0 rfl) ?_
      refine t_getk (ci := 12) (C := RX12) (T := TX12) (N := 38) hx hb hts iX12 hown hw rfl 19 (by decide) (hts _ tw_1144) (fun _ h9 => h9) dX12_wants_145 f_a0_X12_19 ?_
      refine lv_bipush (v := 9) hx hb dX12_wants_148 (by decide) ?_
      refine lv_aload_n hx hb dX12_wants_150 rfl (lv_at hl 0 rfl) ?_
      refine t_getk (ci := 12) (C := RX12) (T := TX12) (N := 38) hx hb hts iX12 hown hw rfl 20 (by decide) (hts _ tw_1145) (fun _ h9 => h9) dX12_wants_151 f_a0_X12_20 ?_
      refine lv_bipush (v := 13) hx hb dX12_wants_154 (by decide) ?_
      refine t_iald hx hb hw k_v1 rfl rfl (by decide) (by decide) dX12_wants_156 (fun v156 r_v156 s_v156 f_v1_M_said_13 => ?_)
      have l_v156 := i32_lo v156
      have h_v156 := i32_hi v156
      refine lv_i2l hx hb dX12_wants_157 rfl ?_
      refine lv_topl (fun v157 e_v157 => ?_)
      have t_v157 : v157.toInt = v156.toInt := by rw [e_v157, Int32.toInt_toInt64]
      refine t_last hx hb hw k_v33 rfl rfl (by decide) (by decide) dX12_wants_158 (fun w_13 H locs y hw u => ?_)
      have hM := hM.up2 u k_v33 (by decide)
      have f_a0_X12_19 := u.1 _ _ _ _ f_a0_X12_19
      have f_a0_X12_20 := u.1 _ _ _ _ f_a0_X12_20
      have f_a0_X12_21 := u.1 _ _ _ _ f_a0_X12_21
      have f_v1_M_said_10 := u.elt f_v1_M_said_10 (ne_k k_v1 k_v33 (by decide))
      have f_v1_M_said_13 := u.elt f_v1_M_said_13 (ne_k k_v1 k_v33 (by decide))
      refine lv_aload_n hx hb dX12_wants_159 rfl (lv_at hl 0 rfl) ?_
      refine t_getk (ci := 12) (C := RX12) (T := TX12) (N := 38) hx hb hts iX12 hown hw rfl 19 (by decide) (hts _ tw_1144) (fun _ h9 => h9) dX12_wants_160 f_a0_X12_19 ?_
      refine lv_bipush (v := 10) hx hb dX12_wants_163 (by decide) ?_
      refine lv_aload_n hx hb dX12_wants_165 rfl (lv_at hl 0 rfl) ?_
      refine t_calli (va_runV (As := []) (rest := [.int 10, .ref v33]) ⟨hx, hb, hml, hown, hts⟩ (t_X12_soundMany l dC dI tys κ B w_13 hw.2.2.2.2 a0 k_a0 H.size) (cwV 0 hts (gUV tw_1525 tw_1527 ts_6_5 tw_13 tw_1528) rfl rfl rfl (by decide +kernel) ⟨(Nat.le_of_ble_eq_true rfl), (Nat.le_of_ble_eq_true rfl)⟩) ⟨cPre.blind, t_recv hw (ci := 12) k_a0 rfl rfl, cPre.use hw.2.1 hw.1 hw.2.2.1 hE⟩ rfl rfl hl.1 rfl (lv_room (Nat.le_of_ble_eq_true rfl)) dX12_wants_166 ⟨(Nat.le_of_ble_eq_true rfl), (Nat.le_of_ble_eq_true rfl)⟩) hw hA (fun _ _ h => h.1) (fun v166 w_14 H locs hp hw => ?_)
      obtain ⟨_, hm⟩ := hp
      have l_v166 := i32_lo v166
      have h_v166 := i32_hi v166
      have hM := hM.trans hm (by decide) (by decide)
      have f_a0_X12_19 := hm.1 _ _ _ _ f_a0_X12_19 (by decide)
      have f_a0_X12_20 := hm.1 _ _ _ _ f_a0_X12_20 (by decide)
      have f_a0_X12_21 := hm.1 _ _ _ _ f_a0_X12_21 (by decide)
      have f_v1_M_said_10 := hm.elt k_v1 (by decide) f_v1_M_said_10
      have f_v1_M_said_13 := hm.elt k_v1 (by decide) f_v1_M_said_13
      refine lv_i2l hx hb dX12_wants_169 rfl ?_
      refine lv_topl (fun v169 e_v169 => ?_)
      have t_v169 : v169.toInt = v166.toInt := by rw [e_v169, Int32.toInt_toInt64]
      refine t_last hx hb hw k_v33 rfl rfl (by decide) (by decide) dX12_wants_170 (fun w_15 H locs y hw u => ?_)
      have hM := hM.up2 u k_v33 (by decide)
      have f_a0_X12_19 := u.1 _ _ _ _ f_a0_X12_19
      have f_a0_X12_20 := u.1 _ _ _ _ f_a0_X12_20
      have f_a0_X12_21 := u.1 _ _ _ _ f_a0_X12_21
      have f_v1_M_said_10 := u.elt f_v1_M_said_10 (ne_k k_v1 k_v33 (by decide))
      have f_v1_M_said_13 := u.elt f_v1_M_said_13 (ne_k k_v1 k_v33 (by decide))
      refine lv_aload_n hx hb dX12_wants_171 rfl (lv_at hl 0 rfl) ?_
      refine lv_aload_n hx hb dX12_wants_172 rfl (lv_at hl 0 rfl) ?_
      refine t_getk (ci := 12) (C := RX12) (T := TX12) (N := 38) hx hb hts iX12 hown hw rfl 21 (by decide) (hts _ tw_1146) (fun _ h9 => h9) dX12_wants_173 f_a0_X12_21 ?_
      refine t_calll (va_runV (As := [.int v16]) (rest := []) ⟨hx, hb, hml, hown, hts⟩ (t_X12_summedBy l dC dI tys κ B w_15 hw.2.2.2.2 a0 k_a0 v16 (by omega) (by omega) (hRT.sm hM (by decide) (by decide)) H.size) (cwV 1 hts (gUV tw_1529 tw_1531 ts_6_6 tw_13 tw_1532) rfl rfl rfl (by decide +kernel) ⟨(Nat.le_of_ble_eq_true rfl), (Nat.le_of_ble_eq_true rfl)⟩) ⟨cPre.blind, t_recv hw (ci := 12) k_a0 rfl rfl, cPre.use hw.2.1 hw.1 hw.2.2.1 hE⟩ rfl rfl hl.1 rfl (lv_room (Nat.le_of_ble_eq_true rfl)) dX12_wants_176 ⟨(Nat.le_of_ble_eq_true rfl), (Nat.le_of_ble_eq_true rfl)⟩) hw hA (fun _ _ h => h.1) (fun v176 w_16 H locs hp hw => ?_)
      obtain ⟨_, hm⟩ := hp
      have hM := hM.trans hm (by decide) (by decide)
      have f_a0_X12_19 := hm.1 _ _ _ _ f_a0_X12_19 (by decide)
      have f_a0_X12_20 := hm.1 _ _ _ _ f_a0_X12_20 (by decide)
      have f_a0_X12_21 := hm.1 _ _ _ _ f_a0_X12_21 (by decide)
      have f_v1_M_said_10 := hm.elt k_v1 (by decide) f_v1_M_said_10
      have f_v1_M_said_13 := hm.elt k_v1 (by decide) f_v1_M_said_13
      rw [hQ]
      refine W.widen (k := 0) (n := 0) (Nat.le_refl _) (Nat.le_refl _) ?_
      exact W.lret (v := v176) hx hb hr (fun t ht hW => ⟨⟨v176, w_16, rfl, ⟨hw.2.2.2.2, hM⟩, by rw [ht]; exact hw.2.1, va_K.moved hW.alike hw.1, hw.2.2.1⟩, hw.2.2.2.1.F ht⟩) hw.2.2.2.1.2.2 dX12_wants_179
    refine lv_icmp_ne (tgt := 127) hx hb dX12_wants_120 (by decide) (fun c_120 => ?_) (fun c_120 => ?_)
    · simp only [fa_lt, fa_le, fa_eq] at c_120
      refine lv_lconst (v := 0) hx hb dX12_wants_127 (by decide) ?_
      obtain ⟨v127, e_v127⟩ : ∃ y : Int64, y = 0 := ⟨_, rfl⟩
      refine W.eq (g2 := F0 m 128 ls [.long v127, .int 7, .ref v33]) (by rw [e_v127]) ?_
      have t_v127 : v127.toInt = 0 := by rw [e_v127]; decide
      exact J128 _ _ _ w_10 v127 hw hM f_a0_X12_19 f_a0_X12_20 f_a0_X12_21 (lv_sub hl [1, 2, 3, 0] rfl)
    · simp only [fa_lt, fa_le, fa_eq] at c_120
      refine lv_lconst (v := 1) hx hb dX12_wants_123 (by decide) ?_
      obtain ⟨v123, e_v123⟩ : ∃ y : Int64, y = 1 := ⟨_, rfl⟩
      refine W.eq (g2 := F0 m 124 ls [.long v123, .int 7, .ref v33]) (by rw [e_v123]) ?_
      have t_v123 : v123.toInt = 1 := by rw [e_v123]; decide
      refine lv_goto (tgt := 128) hx hb dX12_wants_124 (by decide) ?_
      exact J128 _ _ _ w_10 v123 hw hM f_a0_X12_19 f_a0_X12_20 f_a0_X12_21 (lv_sub hl [1, 2, 3, 0] rfl)
  · simp only [fa_lt, fa_le, fa_eq, li_0] at c_19
    refine lv_iload_n hx hb dX12_wants_22 rfl (lv_at hl 0 rfl) ?_
    refine lv_aload_n hx hb dX12_wants_23 rfl (lv_at hl 1 rfl) ?_
    refine lv_iload_n hx hb dX12_wants_24 rfl (lv_at hl 3 rfl) ?_
    refine lv_iconst (v := 1) hx hb dX12_wants_25 (by decide) ?_
    refine t_calli (va_runV (As := [.int a2, .int 1]) (rest := [.int v13]) ⟨hx, hb, hml, hown, hts⟩ (t_X12_boyOf l dC dI tys κ B ws hw.2.2.2.2 a0 k_a0 a2 (by omega) (by omega) 1 (by decide) (by decide) s.heap.size) (cwV 2 hts (gUV tw_1453 tw_1455 ts_5_8 tw_13 tw_1456) rfl rfl rfl (by decide +kernel) ⟨(Nat.le_of_ble_eq_true rfl), (Nat.le_of_ble_eq_true rfl)⟩) ⟨cPre.blind, t_recv hw (ci := 12) k_a0 rfl rfl, cPre.use hw.2.1 hw.1 hw.2.2.1 hE⟩ rfl rfl hl.1 rfl (lv_room (Nat.le_of_ble_eq_true rfl)) dX12_wants_26 ⟨(Nat.le_of_ble_eq_true rfl), (Nat.le_of_ble_eq_true rfl)⟩) hw hA (fun _ _ h => h.1) (fun v26 w_17 H locs hp hw => ?_)
    obtain ⟨_, hm⟩ := hp
    have l_v26 := i32_lo v26
    have h_v26 := i32_hi v26
    have hM := hM.trans hm (by decide) (by decide)
    have f_a0_X12_20 := hm.1 _ _ _ _ f_a0_X12_20 (by decide)
    have f_a0_X12_21 := hm.1 _ _ _ _ f_a0_X12_21 (by decide)
    refine lv_iadd hx hb dX12_wants_29 ?_
    refine lv_topi (fun v29 e_v29 => ?_)
    have l_v29 := i32_lo v29
    have h_v29 := i32_hi v29
    refine lv_i2l hx hb dX12_wants_30 rfl ?_
    refine lv_topl (fun v30 e_v30 => ?_)
    have t_v30 : v30.toInt = v29.toInt := by rw [e_v30, Int32.toInt_toInt64]
    rw [hQ]
    refine W.widen (k := 0) (n := 0) (Nat.le_refl _) (Nat.le_refl _) ?_
    exact W.lret (v := v30) hx hb hr (fun t ht hW => ⟨⟨v30, w_17, rfl, ⟨hw.2.2.2.2, hM⟩, by rw [ht]; exact hw.2.1, va_K.moved hW.alike hw.1, hw.2.2.1⟩, hw.2.2.2.1.F ht⟩) hw.2.2.2.1.2.2 dX12_wants_31
set_option maxHeartbeats 4000000 in
set_option maxRecDepth 100000 in
theorem t_X12_votesFor (l : Launch) (dC : Nat → ClassId) (dI : Nat → Nat → Nat) (tys : List (ClassId × FieldType)) (κ : tK) (B : Nat) (ws : va_W) (hT : Ty κ tys B ws) (a0 : Nat) (k_a0 : κ a0 = some 12) (a1 : Int32) (l_a1 : 0 ≤ a1.toInt) (h_a1 : a1.toInt ≤ 5) (hRT : RT κ ws a0) (sz : Nat) : Met l yX12_votesFor (ws_u yX12_votesFor cX12_votesFor 8 (some .int)) ({ frames := 4, cells := 0, slots := 0, locals := 100 }) (va_Pc [.ref a0, .int a1] (cPre (dC, dI) tys ws sz)) (va_Qi (fun (r : Int32) (w : va_W) => (-1) ≤ r.toInt ∧ r.toInt ≤ 5 ∧ Ty κ tys B w ∧ Sm [(12, 18)] [61, 62] κ ws w) (fun w t => cPost (dC, dI) tys w (va_A ws sz) t) (va_A ws sz)) 0 0 (va_A ws sz) := by
  refine Met.ofW (cc := cX12_votesFor) (maxL := 8) (ret := (some .int)) (by decide) rfl ?_
  intro p e s m args below meth c s₁ B0 hml hv
  obtain ⟨rfl, hsz, hP, hK, hD0, hE⟩ := hv
  have hx := B0.exec
  have hb := B0.bytes
  have hr := B0.returns
  have hts0 := atoms_spec (ws := ws_u yX12_votesFor cX12_votesFor 8 (some .int)) B0.pre
  have hts : ∀ w ∈ gT, w.before _ s = true := fun w h => hts0 w (List.mem_cons_of_mem _ h)
  have hown : s.vm.findClass RX12 = some m.cls := findClass_of_methodNamed B0.named
  have hlocks := B0.notSynchronized
  subst hsz
  have hD := hD0.self (sz := s.heap.size)
  generalize hAe : va_A ws s.heap.size = A at hD ⊢
  have hA : ∀ q : Nat, s.heap.size ≤ q → A q := fun q h => by rw [← hAe]; exact Or.inr h
  have hw : tW (dC, dI) tys κ B A s ws s.heap [] := ⟨hK, hP, hD, va_S.rf, hT⟩
  have hM : Sm [(12, 18)] [61, 62] κ ws ws := Sm.rf
  clear hP hK hD hD0 hts0
  have hl := lv_entry ([.ref a0, .int a1]) (n := 8) (Nat.le_of_ble_eq_true rfl)
  rw [lg_entry_eq]
  generalize (lg_sl ([.ref a0, .int a1]) ++ List.replicate (8 - (lg_sl ([.ref a0, .int a1])).length) Slot.unset).toArray = ls at hl ⊢
  have hl : lv_has ls 8 [(0, .ref a0), (1, .int a1)] := hl
  refine t_start (fun QQ hQ => ?_)
  refine lv_iconst (v := (-1)) hx hb dX12_votesFor_0 (by decide) ?_
  refine lv_istore_n (lv' := [(2, .int (-1)), (0, .ref a0), (1, .int a1)]) hx hb dX12_votesFor_1 rfl hl (by decide) rfl (fun ls hl => ?_)
  refine lv_lconst (v := 0) hx hb dX12_votesFor_2 (by decide) ?_
  obtain ⟨v2, e_v2⟩ : ∃ y : Int64, y = 0 := ⟨_, rfl⟩
  refine W.eq (g2 := F0 m 3 ls [.long v2]) (by rw [e_v2]) ?_
  have t_v2 : v2.toInt = 0 := by rw [e_v2]; decide
  refine lv_lstore_n (lv' := [(3, .long v2), (2, .int (-1)), (0, .ref a0), (1, .int a1)]) hx hb dX12_votesFor_3 rfl hl (by decide) rfl (fun ls hl => ?_)
  refine lv_iconst (v := 0) hx hb dX12_votesFor_4 (by decide) ?_
  refine lv_istore (lv' := [(5, .int 0), (3, .long v2), (2, .int (-1)), (0, .ref a0), (1, .int a1)]) hx hb dX12_votesFor_5 hl (by decide) rfl (fun ls hl => ?_)
  have J7 : ∀ (n : Nat) (H : Heap) (locs : List Loc) (ls : Array Slot), (∃ (w7 : va_W) (p7_l2 : Int32) (p7_l3 : Int64) (p7_l5 : Int32), tW (dC, dI) tys κ B A s w7 H locs ∧ Sm [(12, 18)] [61, 62] κ ws w7 ∧ (-1) ≤ p7_l2.toInt ∧ p7_l2.toInt ≤ 5 ∧ 0 ≤ p7_l5.toInt ∧ p7_l5.toInt ≤ 6 ∧ lv_has ls 8 [(0, .ref a0), (1, .int a1), (2, .int p7_l2), (3, .long p7_l3), (5, .int p7_l5)] ∧ (6 - p7_l5.toInt).toNat = n) → W p l e (headSpec (ws_u yX12_votesFor cX12_votesFor 8 (some .int)) ({ frames := 4, cells := 0, slots := 0, locals := 100 })).room s m ([.ref a0, .int a1] : List Value).toArray below meth c H locs 0 0 QQ (F0 m 7 ls []) := by
    refine loopT _ ?_
    intro n_7 H locs ls hI ih_7
    obtain ⟨w7, p7_l2, p7_l3, p7_l5, hw, hM, l_p7_l2, h_p7_l2, l_p7_l5, h_p7_l5, hl, hn_7⟩ := hI
    refine lv_iload hx hb dX12_votesFor_7 (lv_at hl 4 rfl) ?_
    refine lv_aload_n hx hb dX12_votesFor_9 rfl (lv_at hl 0 rfl) ?_
    refine t_getr (k1 := 63) (ci := 12) (C := RX12) (T := TX12) (N := 38) hx hb hts iX12 hown hw k_a0 rfl rfl rfl 20 (by decide) (hts _ tw_1145) (fun _ h9 => h9) dX12_votesFor_10 rfl (fun v10 k_v10 f_a0_X12_20 => ?_)
    refine lv_iconst (v := 3) hx hb dX12_votesFor_13 (by decide) ?_
    refine t_iald hx hb hw k_v10 rfl rfl (by decide) (by decide) dX12_votesFor_14 (fun v14 r_v14 s_v14 f_v10_M_said_3 => ?_)
    have l_v14 : 0 ≤ v14.toInt := by rw [iv_63_3] at r_v14; exact r_v14
    have h_v14 : v14.toInt ≤ 6 := by rw [iv_63_3] at s_v14; exact s_v14
    refine lv_icmp_ge (tgt := 61) hx hb dX12_votesFor_15 (by decide) (fun c_15 => ?_) (fun c_15 => ?_)
    · simp only [fa_lt, fa_le, fa_eq] at c_15
      refine lv_iload_n hx hb dX12_votesFor_61 rfl (lv_at hl 2 rfl) ?_
      rw [hQ]
      refine W.widen (k := 0) (n := 0) (Nat.le_refl _) (Nat.le_refl _) ?_
      exact W.iret (v := p7_l2) hx hb hr (fun t ht hW => ⟨⟨p7_l2, w7, rfl, ⟨(by omega), (by omega), hw.2.2.2.2, hM⟩, by rw [ht]; exact hw.2.1, va_K.moved hW.alike hw.1, hw.2.2.1⟩, hw.2.2.2.1.F ht⟩) hw.2.2.2.1.2.2 dX12_votesFor_62
    · simp only [fa_lt, fa_le, fa_eq] at c_15
      refine lv_aload_n hx hb dX12_votesFor_18 rfl (lv_at hl 0 rfl) ?_
      refine lv_iload hx hb dX12_votesFor_19 (lv_at hl 4 rfl) ?_
      refine t_calli (va_runV (As := [.int p7_l5]) (rest := []) ⟨hx, hb, hml, hown, hts⟩ (t_X12_isSound l dC dI tys κ B w7 hw.2.2.2.2 a0 k_a0 p7_l5 H.size) (cwV 1 hts (gUV tw_1517 tw_1519 ts_6_3 tw_13 tw_1520) rfl rfl rfl (by decide +kernel) ⟨(Nat.le_of_ble_eq_true rfl), (Nat.le_of_ble_eq_true rfl)⟩) ⟨cPre.blind, t_recv hw (ci := 12) k_a0 rfl rfl, cPre.use hw.2.1 hw.1 hw.2.2.1 hE⟩ rfl rfl hl.1 rfl (lv_room (Nat.le_of_ble_eq_true rfl)) dX12_votesFor_21 ⟨(Nat.le_of_ble_eq_true rfl), (Nat.le_of_ble_eq_true rfl)⟩) hw hA (fun _ _ h => h.2.2.1) (fun v21 w_1 H locs hp hw => ?_)
      obtain ⟨l_v21, h_v21, _, hm, x_v21_0⟩ := hp
      have hM := hM.trans hm (by decide) (by decide)
      have f_a0_X12_20 := hm.1 _ _ _ _ f_a0_X12_20 (by decide)
      have f_v10_M_said_3 := hm.elt k_v10 (by decide) f_v10_M_said_3
      have J55 : ∀ (H : Heap) (locs : List Loc) (ls : Array Slot) (w55 : va_W) (p55_l2 : Int32) (p55_l3 : Int64), tW (dC, dI) tys κ B A s w55 H locs → Sm [(12, 18)] [61, 62] κ ws w55 → (-1) ≤ p55_l2.toInt → p55_l2.toInt ≤ 5 → fld w55 a0 12 20 (.ref v10) → elt w55 v10 (3 : Int32).toInt.toNat v14 → lv_has ls 8 [(0, .ref a0), (1, .int a1), (2, .int p55_l2), (3, .long p55_l3), (5, .int p7_l5)] → W p l e (headSpec (ws_u yX12_votesFor cX12_votesFor 8 (some .int)) ({ frames := 4, cells := 0, slots := 0, locals := 100 })).room s m ([.ref a0, .int a1] : List Value).toArray below meth c H locs 0 0 QQ (F0 m 55 ls []) := by
        intro H locs ls w55 p55_l2 p55_l3 hw hM l_p55_l2 h_p55_l2 f_a0_X12_20 f_v10_M_said_3 hl
        obtain ⟨v55, e_v55⟩ : ∃ y : Int32, y = p7_l5 + 1 := ⟨_, rfl⟩
        refine lv_iinc (v := v55) (lv' := [(5, .int v55), (0, .ref a0), (1, .int a1), (2, .int p55_l2), (3, .long p55_l3)]) hx hb dX12_votesFor_55 hl (k := 4) rfl e_v55.symm (by decide) rfl (fun ls hl => ?_)
        have e_v55 : v55.toInt = p7_l5.toInt + 1 := ad_i e_v55 rfl li_1 (by omega) (by omega)
        refine lv_goto (tgt := 7) hx hb dX12_votesFor_58 (by decide) ?_
        exact ih_7 _ _ _ _ (by omega) ⟨w55, p55_l2, p55_l3, v55, hw, hM, (by omega), (by omega), (by omega), (by omega), (lv_sub hl [1, 2, 3, 4, 0] rfl), rfl⟩
      refine lv_if_ne (tgt := 30) hx hb dX12_votesFor_24 (by decide) (fun c_24 => ?_) (fun c_24 => ?_)
      · simp only [fa_lt, fa_le, fa_eq, li_0] at c_24
        refine lv_aload_n hx hb dX12_votesFor_30 rfl (lv_at hl 0 rfl) ?_
        refine lv_iload_n hx hb dX12_votesFor_31 rfl (lv_at hl 1 rfl) ?_
        refine lv_iload hx hb dX12_votesFor_32 (lv_at hl 4 rfl) ?_
        refine t_calll (va_runV (As := [.int a1, .int p7_l5]) (rest := []) ⟨hx, hb, hml, hown, hts⟩ (t_X12_wants l dC dI tys κ B w_1 hw.2.2.2.2 a0 k_a0 a1 (by omega) (by omega) p7_l5 (by omega) (by omega) (hRT.sm hM (by decide) (by decide)) H.size) (cwV 2 hts (gUV tw_1521 tw_1523 ts_6_4 tw_13 tw_1524) rfl rfl rfl (by decide +kernel) ⟨(Nat.le_of_ble_eq_true rfl), (Nat.le_of_ble_eq_true rfl)⟩) ⟨cPre.blind, t_recv hw (ci := 12) k_a0 rfl rfl, cPre.use hw.2.1 hw.1 hw.2.2.1 hE⟩ rfl rfl hl.1 rfl (lv_room (Nat.le_of_ble_eq_true rfl)) dX12_votesFor_34 ⟨(Nat.le_of_ble_eq_true rfl), (Nat.le_of_ble_eq_true rfl)⟩) hw hA (fun _ _ h => h.1) (fun v34 w_2 H locs hp hw => ?_)
        obtain ⟨_, hm⟩ := hp
        have hM := hM.trans hm (by decide) (by decide)
        have f_a0_X12_20 := hm.1 _ _ _ _ f_a0_X12_20 (by decide)
        have f_v10_M_said_3 := hm.elt k_v10 (by decide) f_v10_M_said_3
        refine lv_lstore (lv' := [(6, .long v34), (0, .ref a0), (1, .int a1), (2, .int p7_l2), (3, .long p7_l3), (5, .int p7_l5)]) hx hb dX12_votesFor_37 hl (by decide) rfl (fun ls hl => ?_)
        refine lv_lload hx hb dX12_votesFor_39 (lv_at hl 0 rfl) ?_
        refine lv_lload_n hx hb dX12_votesFor_41 rfl (lv_at hl 4 rfl) ?_
        refine W.lcmp hx hb dX12_votesFor_42 ?_
        refine lv_topi (fun v42 e_v42 => ?_)
        have l_v42 := i32_lo v42
        have h_v42 := i32_hi v42
        have g_v42 := lgc e_v42
        refine lv_if_gt (tgt := 49) hx hb dX12_votesFor_43 (by decide) (fun c_43 => ?_) (fun c_43 => ?_)
        · simp only [fa_lt, fa_le, fa_eq, li_0] at c_43
          refine lv_iload hx hb dX12_votesFor_49 (lv_at hl 5 rfl) ?_
          refine lv_istore_n (lv' := [(2, .int p7_l5), (6, .long v34), (0, .ref a0), (1, .int a1), (3, .long p7_l3), (5, .int p7_l5)]) hx hb dX12_votesFor_51 rfl hl (by decide) rfl (fun ls hl => ?_)
          refine lv_lload hx hb dX12_votesFor_52 (lv_at hl 1 rfl) ?_
          refine lv_lstore_n (lv' := [(3, .long v34), (2, .int p7_l5), (6, .long v34), (0, .ref a0), (1, .int a1), (5, .int p7_l5)]) hx hb dX12_votesFor_54 rfl hl (by decide) rfl (fun ls hl => ?_)
          exact J55 _ _ _ w_2 p7_l5 v34 hw hM (by omega) (by omega) f_a0_X12_20 f_v10_M_said_3 (lv_sub hl [3, 4, 1, 0, 5] rfl)
        · simp only [fa_lt, fa_le, fa_eq, li_0] at c_43
          refine lv_goto (tgt := 55) hx hb dX12_votesFor_46 (by decide) ?_
          exact J55 _ _ _ w_2 p7_l2 p7_l3 hw hM (by omega) (by omega) f_a0_X12_20 f_v10_M_said_3 (lv_sub hl [1, 2, 3, 4, 5] rfl)
      · simp only [fa_lt, fa_le, fa_eq, li_0] at c_24
        refine lv_goto (tgt := 55) hx hb dX12_votesFor_27 (by decide) ?_
        exact J55 _ _ _ w_1 p7_l2 p7_l3 hw hM (by omega) (by omega) f_a0_X12_20 f_v10_M_said_3 (lv_sub hl [0, 1, 2, 3, 4] rfl)
  exact J7 _ _ _ _ ⟨ws, (-1), v2, 0, hw, hM, (by decide), (by decide), (by decide), (by decide), (lv_sub hl [3, 4, 2, 1, 0] rfl), rfl⟩
set_option maxHeartbeats 4000000 in
set_option maxRecDepth 100000 in
theorem t_X12_fillsVotes (l : Launch) (dC : Nat → ClassId) (dI : Nat → Nat → Nat) (tys : List (ClassId × FieldType)) (κ : tK) (B : Nat) (ws : va_W) (hT : Ty κ tys B ws) (a0 : Nat) (k_a0 : κ a0 = some 12) (hRT : RT κ ws a0) (sz : Nat) : Met l yX12_fillsVotes (ws_u yX12_fillsVotes cX12_fillsVotes 2 none) ({ frames := 5, cells := 0, slots := 0, locals := 127 }) (va_Pc [.ref a0] (cPre (dC, dI) tys ws sz)) (va_Qv (fun (w : va_W) => Ty κ tys B w ∧ Sm [(12, 18)] [61, 62, 64] κ ws w) (fun w t => cPost (dC, dI) tys w (va_A ws sz) t) (va_A ws sz)) 0 0 (va_A ws sz) := by
  refine Met.ofW (cc := cX12_fillsVotes) (maxL := 2) (ret := none) (by decide) rfl ?_
  intro p e s m args below meth c s₁ B0 hml hv
  obtain ⟨rfl, hsz, hP, hK, hD0, hE⟩ := hv
  have hx := B0.exec
  have hb := B0.bytes
  have hr := B0.returns
  have hts0 := atoms_spec (ws := ws_u yX12_fillsVotes cX12_fillsVotes 2 none) B0.pre
  have hts : ∀ w ∈ gT, w.before _ s = true := fun w h => hts0 w (List.mem_cons_of_mem _ h)
  have hown : s.vm.findClass RX12 = some m.cls := findClass_of_methodNamed B0.named
  have hlocks := B0.notSynchronized
  subst hsz
  have hD := hD0.self (sz := s.heap.size)
  generalize hAe : va_A ws s.heap.size = A at hD ⊢
  have hA : ∀ q : Nat, s.heap.size ≤ q → A q := fun q h => by rw [← hAe]; exact Or.inr h
  have hw : tW (dC, dI) tys κ B A s ws s.heap [] := ⟨hK, hP, hD, va_S.rf, hT⟩
  have hM : Sm [(12, 18)] [61, 62, 64] κ ws ws := Sm.rf
  clear hP hK hD hD0 hts0
  have hl := lv_entry ([.ref a0]) (n := 2) (Nat.le_of_ble_eq_true rfl)
  rw [lg_entry_eq]
  generalize (lg_sl ([.ref a0]) ++ List.replicate (2 - (lg_sl ([.ref a0])).length) Slot.unset).toArray = ls at hl ⊢
  have hl : lv_has ls 2 [(0, .ref a0)] := hl
  refine t_start (fun QQ hQ => ?_)
  refine lv_iconst (v := 0) hx hb dX12_fillsVotes_0 (by decide) ?_
  refine lv_istore_n (lv' := [(1, .int 0), (0, .ref a0)]) hx hb dX12_fillsVotes_1 rfl hl (by decide) rfl (fun ls hl => ?_)
  have J2 : ∀ (n : Nat) (H : Heap) (locs : List Loc) (ls : Array Slot), (∃ (w2 : va_W) (p2_l1 : Int32), tW (dC, dI) tys κ B A s w2 H locs ∧ Sm [(12, 18)] [61, 62, 64] κ ws w2 ∧ 0 ≤ p2_l1.toInt ∧ p2_l1.toInt ≤ 6 ∧ lv_has ls 2 [(0, .ref a0), (1, .int p2_l1)] ∧ (6 - p2_l1.toInt).toNat = n) → W p l e (headSpec (ws_u yX12_fillsVotes cX12_fillsVotes 2 none) ({ frames := 5, cells := 0, slots := 0, locals := 127 })).room s m ([.ref a0] : List Value).toArray below meth c H locs 0 0 QQ (F0 m 2 ls []) := by
    refine loopT _ ?_
    intro n_2 H locs ls hI ih_2
    obtain ⟨w2, p2_l1, hw, hM, l_p2_l1, h_p2_l1, hl, hn_2⟩ := hI
    refine lv_iload_n hx hb dX12_fillsVotes_2 rfl (lv_at hl 1 rfl) ?_
    refine lv_aload_n hx hb dX12_fillsVotes_3 rfl (lv_at hl 0 rfl) ?_
    refine t_getr (k1 := 63) (ci := 12) (C := RX12) (T := TX12) (N := 38) hx hb hts iX12 hown hw k_a0 rfl rfl rfl 20 (by decide) (hts _ tw_1145) (fun _ h9 => h9) dX12_fillsVotes_4 rfl (fun v4 k_v4 f_a0_X12_20 => ?_)
    refine lv_iconst (v := 3) hx hb dX12_fillsVotes_7 (by decide) ?_
    refine t_iald hx hb hw k_v4 rfl rfl (by decide) (by decide) dX12_fillsVotes_8 (fun v8 r_v8 s_v8 f_v4_M_said_3 => ?_)
    have l_v8 : 0 ≤ v8.toInt := by rw [iv_63_3] at r_v8; exact r_v8
    have h_v8 : v8.toInt ≤ 6 := by rw [iv_63_3] at s_v8; exact s_v8
    refine lv_icmp_ge (tgt := 29) hx hb dX12_fillsVotes_9 (by decide) (fun c_9 => ?_) (fun c_9 => ?_)
    · simp only [fa_lt, fa_le, fa_eq] at c_9
      rw [hQ]
      refine W.widen (k := 0) (n := 0) (Nat.le_refl _) (Nat.le_refl _) ?_
      exact W.vret hx hb hr (fun t ht hW => ⟨⟨w2, rfl, ⟨hw.2.2.2.2, hM⟩, by rw [ht]; exact hw.2.1, va_K.moved hW.alike hw.1, hw.2.2.1⟩, hw.2.2.2.1.F ht⟩) hw.2.2.2.1.2.2 dX12_fillsVotes_29
    · simp only [fa_lt, fa_le, fa_eq] at c_9
      refine lv_aload_n hx hb dX12_fillsVotes_12 rfl (lv_at hl 0 rfl) ?_
      refine t_getr (k1 := 64) (ci := 12) (C := RX12) (T := TX12) (N := 38) hx hb hts iX12 hown hw k_a0 rfl rfl rfl 23 (by decide) (hts _ tw_1148) (fun _ h9 => h9) dX12_fillsVotes_13 rfl (fun v13 k_v13 f_a0_X12_23 => ?_)
      refine lv_iload_n hx hb dX12_fillsVotes_16 rfl (lv_at hl 1 rfl) ?_
      refine lv_aload_n hx hb dX12_fillsVotes_17 rfl (lv_at hl 0 rfl) ?_
      refine lv_iload_n hx hb dX12_fillsVotes_18 rfl (lv_at hl 1 rfl) ?_
      refine t_calli (va_runV (As := [.int p2_l1]) (rest := [.int p2_l1, .ref v13]) ⟨hx, hb, hml, hown, hts⟩ (t_X12_votesFor l dC dI tys κ B w2 hw.2.2.2.2 a0 k_a0 p2_l1 (by omega) (by omega) (hRT.sm hM (by decide) (by decide)) H.size) (cwV 1 hts (gUV tw_1513 tw_1515 ts_6_2 tw_13 tw_1516) rfl rfl rfl (by decide +kernel) ⟨(Nat.le_of_ble_eq_true rfl), (Nat.le_of_ble_eq_true rfl)⟩) ⟨cPre.blind, t_recv hw (ci := 12) k_a0 rfl rfl, cPre.use hw.2.1 hw.1 hw.2.2.1 hE⟩ rfl rfl hl.1 rfl (lv_room (Nat.le_of_ble_eq_true rfl)) dX12_fillsVotes_19 ⟨(Nat.le_of_ble_eq_true rfl), (Nat.le_of_ble_eq_true rfl)⟩) hw hA (fun _ _ h => h.2.2.1) (fun v19 w_1 H locs hp hw => ?_)
      obtain ⟨l_v19, h_v19, _, hm⟩ := hp
      have hM := hM.trans hm (by decide) (by decide)
      have f_a0_X12_20 := hm.1 _ _ _ _ f_a0_X12_20 (by decide)
      have f_v4_M_said_3 := hm.elt k_v4 (by decide) f_v4_M_said_3
      have f_a0_X12_23 := hm.1 _ _ _ _ f_a0_X12_23 (by decide)
      refine t_iast hx hb hw k_v13 rfl rfl (by omega) (show p2_l1.toInt < 6 by omega) (i32_lo _) (i32_hi _) dX12_fillsVotes_22 (fun w_2 H locs hw u => ?_)
      have hM := hM.up3 u k_v13 (by decide)
      have f_a0_X12_20 := u.1 _ _ _ _ f_a0_X12_20
      have f_v4_M_said_3 := u.2.2.1 _ _ _ f_v4_M_said_3 (Or.inl (ne_k k_v4 k_v13 (by decide)))
      have f_a0_X12_23 := u.1 _ _ _ _ f_a0_X12_23
      obtain ⟨v23, e_v23⟩ : ∃ y : Int32, y = p2_l1 + 1 := ⟨_, rfl⟩
      refine lv_iinc (v := v23) (lv' := [(1, .int v23), (0, .ref a0)]) hx hb dX12_fillsVotes_23 hl (k := 1) rfl e_v23.symm (by decide) rfl (fun ls hl => ?_)
      have e_v23 : v23.toInt = p2_l1.toInt + 1 := ad_i e_v23 rfl li_1 (by omega) (by omega)
      refine lv_goto (tgt := 2) hx hb dX12_fillsVotes_26 (by decide) ?_
      exact ih_2 _ _ _ _ (by omega) ⟨w_2, v23, hw, hM, (by omega), (by omega), (lv_sub hl [1, 0] rfl), rfl⟩
  exact J2 _ _ _ _ ⟨ws, 0, hw, hM, (by decide), (by decide), (lv_sub hl [1, 0] rfl), rfl⟩
