theorem ts_4_10 : Cond.selects "BoyBishopModel" ⟨"BoyBishopModel", "wordHere", "()I"⟩ ⟨"BoyBishopModel", "wordHere", "()I"⟩ ∈ gT := gT_in (List.mem_append_left _ (List.mem_map.mpr ⟨(⟨"BoyBishopModel", "wordHere", "()I"⟩, 38), (List.mem_append_right _ (List.mem_append_right _ (List.mem_append_right _ (List.mem_append_right _ (List.mem_append_left _ (List.mem_of_getElem? (i := 10) rfl)))))), rfl⟩)) rfl
theorem ts_4_6 : Cond.selects "BoyBishopModel" ⟨"BoyBishopModel", "term", "()Z"⟩ ⟨"BoyBishopModel", "term", "()Z"⟩ ∈ gT := gT_in (List.mem_append_left _ (List.mem_map.mpr ⟨(⟨"BoyBishopModel", "term", "()Z"⟩, 38), (List.mem_append_right _ (List.mem_append_right _ (List.mem_append_right _ (List.mem_append_right _ (List.mem_append_left _ (List.mem_of_getElem? (i := 6) rfl)))))), rfl⟩)) rfl
theorem ts_4_7 : Cond.selects "BoyBishopModel" ⟨"BoyBishopModel", "value", "()Z"⟩ ⟨"BoyBishopModel", "value", "()Z"⟩ ∈ gT := gT_in (List.mem_append_left _ (List.mem_map.mpr ⟨(⟨"BoyBishopModel", "value", "()Z"⟩, 38), (List.mem_append_right _ (List.mem_append_right _ (List.mem_append_right _ (List.mem_append_right _ (List.mem_append_left _ (List.mem_of_getElem? (i := 7) rfl)))))), rfl⟩)) rfl
theorem ts_4_8 : Cond.selects "BoyBishopModel" ⟨"BoyBishopModel", "makes", "(I)Z"⟩ ⟨"BoyBishopModel", "makes", "(I)Z"⟩ ∈ gT := gT_in (List.mem_append_left _ (List.mem_map.mpr ⟨(⟨"BoyBishopModel", "makes", "(I)Z"⟩, 38), (List.mem_append_right _ (List.mem_append_right _ (List.mem_append_right _ (List.mem_append_right _ (List.mem_append_left _ (List.mem_of_getElem? (i := 8) rfl)))))), rfl⟩)) rfl
theorem ts_4_9 : Cond.selects "BoyBishopModel" ⟨"BoyBishopModel", "puts", "(II)V"⟩ ⟨"BoyBishopModel", "puts", "(II)V"⟩ ∈ gT := gT_in (List.mem_append_left _ (List.mem_map.mpr ⟨(⟨"BoyBishopModel", "puts", "(II)V"⟩, 38), (List.mem_append_right _ (List.mem_append_right _ (List.mem_append_right _ (List.mem_append_right _ (List.mem_append_left _ (List.mem_of_getElem? (i := 9) rfl)))))), rfl⟩)) rfl
theorem tw_1129 : (Jvm.Cond.fieldLink "BoyBishopModel" (17 : Nat) "BoyBishopModel" "length" "[I") ∈ gT := gT_in (List.mem_append_right _ (List.mem_append_right _ (List.mem_append_right _ (List.mem_append_right _ (List.mem_append_right _ (List.mem_append_left _ (List.mem_of_getElem? (i := 169) rfl))))))) rfl
theorem tw_1136 : (Jvm.Cond.fieldLink "BoyBishopModel" (147 : Nat) "BoyBishopModel" "text" "I") ∈ gT := gT_in (List.mem_append_right _ (List.mem_append_right _ (List.mem_append_right _ (List.mem_append_right _ (List.mem_append_right _ (List.mem_append_left _ (List.mem_of_getElem? (i := 176) rfl))))))) rfl
theorem tw_1137 : (Jvm.Cond.fieldLink "BoyBishopModel" (150 : Nat) "BoyBishopModel" "made" "I") ∈ gT := gT_in (List.mem_append_right _ (List.mem_append_right _ (List.mem_append_right _ (List.mem_append_right _ (List.mem_append_right _ (List.mem_append_left _ (List.mem_of_getElem? (i := 177) rfl))))))) rfl
theorem tw_1138 : (Jvm.Cond.fieldLink "BoyBishopModel" (153 : Nat) "BoyBishopModel" "deep" "I") ∈ gT := gT_in (List.mem_append_right _ (List.mem_append_right _ (List.mem_append_right _ (List.mem_append_right _ (List.mem_append_right _ (List.mem_append_left _ (List.mem_of_getElem? (i := 178) rfl))))))) rfl
theorem tw_1140 : (Jvm.Cond.fieldLink "BoyBishopModel" (29 : Nat) "BoyBishopModel" "open" "[I") ∈ gT := gT_in (List.mem_append_right _ (List.mem_append_right _ (List.mem_append_right _ (List.mem_append_right _ (List.mem_append_right _ (List.mem_append_left _ (List.mem_of_getElem? (i := 180) rfl))))))) rfl
theorem tw_1141 : (Jvm.Cond.fieldLink "BoyBishopModel" (156 : Nat) "BoyBishopModel" "opened" "I") ∈ gT := gT_in (List.mem_append_right _ (List.mem_append_right _ (List.mem_append_right _ (List.mem_append_right _ (List.mem_append_right _ (List.mem_append_left _ (List.mem_of_getElem? (i := 181) rfl))))))) rfl
theorem tw_1351 : (Jvm.Cond.methodLink "BoyBishopModel" (181 : Nat) ({ cls := "BoyBishopModel", name := "term", desc := "()Z" } : Jvm.MethodName)) ∈ gT := gT_in (List.mem_append_right _ (List.mem_append_right _ (List.mem_append_right _ (List.mem_append_right _ (List.mem_append_right _ (List.mem_append_right _ (List.mem_append_left _ (List.mem_of_getElem? (i := 151) rfl)))))))) rfl
theorem tw_1353 : (Jvm.Cond.instanceMethod ({ cls := "BoyBishopModel", name := "term", desc := "()Z" } : Jvm.MethodName)) ∈ gT := gT_in (List.mem_append_right _ (List.mem_append_right _ (List.mem_append_right _ (List.mem_append_right _ (List.mem_append_right _ (List.mem_append_right _ (List.mem_append_left _ (List.mem_of_getElem? (i := 153) rfl)))))))) rfl
theorem tw_1354 : (Jvm.Cond.code ({ cls := "BoyBishopModel", name := "term", desc := "()Z" } : Jvm.MethodName) prog_14_method_24_code (2 : Nat) (Option.some Jvm.ClassFile.FieldType.boolean)) ∈ gT := gT_in (List.mem_append_right _ (List.mem_append_right _ (List.mem_append_right _ (List.mem_append_right _ (List.mem_append_right _ (List.mem_append_right _ (List.mem_append_left _ (List.mem_of_getElem? (i := 154) rfl)))))))) rfl
theorem tw_1355 : (Jvm.Cond.methodLink "BoyBishopModel" (177 : Nat) ({ cls := "BoyBishopModel", name := "value", desc := "()Z" } : Jvm.MethodName)) ∈ gT := gT_in (List.mem_append_right _ (List.mem_append_right _ (List.mem_append_right _ (List.mem_append_right _ (List.mem_append_right _ (List.mem_append_right _ (List.mem_append_left _ (List.mem_of_getElem? (i := 155) rfl)))))))) rfl
theorem tw_1357 : (Jvm.Cond.instanceMethod ({ cls := "BoyBishopModel", name := "value", desc := "()Z" } : Jvm.MethodName)) ∈ gT := gT_in (List.mem_append_right _ (List.mem_append_right _ (List.mem_append_right _ (List.mem_append_right _ (List.mem_append_right _ (List.mem_append_right _ (List.mem_append_left _ (List.mem_of_getElem? (i := 157) rfl)))))))) rfl
theorem tw_1358 : (Jvm.Cond.code ({ cls := "BoyBishopModel", name := "value", desc := "()Z" } : Jvm.MethodName) prog_14_method_23_code (3 : Nat) (Option.some Jvm.ClassFile.FieldType.boolean)) ∈ gT := gT_in (List.mem_append_right _ (List.mem_append_right _ (List.mem_append_right _ (List.mem_append_right _ (List.mem_append_right _ (List.mem_append_right _ (List.mem_append_left _ (List.mem_of_getElem? (i := 158) rfl)))))))) rfl
theorem tw_1360 : (Jvm.Cond.methodLink "BoyBishopModel" (171 : Nat) ({ cls := "BoyBishopModel", name := "makes", desc := "(I)Z" } : Jvm.MethodName)) ∈ gT := gT_in (List.mem_append_right _ (List.mem_append_right _ (List.mem_append_right _ (List.mem_append_right _ (List.mem_append_right _ (List.mem_append_right _ (List.mem_append_left _ (List.mem_of_getElem? (i := 160) rfl)))))))) rfl
theorem tw_1362 : (Jvm.Cond.instanceMethod ({ cls := "BoyBishopModel", name := "makes", desc := "(I)Z" } : Jvm.MethodName)) ∈ gT := gT_in (List.mem_append_right _ (List.mem_append_right _ (List.mem_append_right _ (List.mem_append_right _ (List.mem_append_right _ (List.mem_append_right _ (List.mem_append_left _ (List.mem_of_getElem? (i := 162) rfl)))))))) rfl
theorem tw_1363 : (Jvm.Cond.code ({ cls := "BoyBishopModel", name := "makes", desc := "(I)Z" } : Jvm.MethodName) prog_14_method_19_code (2 : Nat) (Option.some Jvm.ClassFile.FieldType.boolean)) ∈ gT := gT_in (List.mem_append_right _ (List.mem_append_right _ (List.mem_append_right _ (List.mem_append_right _ (List.mem_append_right _ (List.mem_append_right _ (List.mem_append_left _ (List.mem_of_getElem? (i := 163) rfl)))))))) rfl
theorem tw_1364 : (Jvm.Cond.methodLink "BoyBishopModel" (163 : Nat) ({ cls := "BoyBishopModel", name := "puts", desc := "(II)V" } : Jvm.MethodName)) ∈ gT := gT_in (List.mem_append_right _ (List.mem_append_right _ (List.mem_append_right _ (List.mem_append_right _ (List.mem_append_right _ (List.mem_append_right _ (List.mem_append_left _ (List.mem_of_getElem? (i := 164) rfl)))))))) rfl
theorem tw_1366 : (Jvm.Cond.instanceMethod ({ cls := "BoyBishopModel", name := "puts", desc := "(II)V" } : Jvm.MethodName)) ∈ gT := gT_in (List.mem_append_right _ (List.mem_append_right _ (List.mem_append_right _ (List.mem_append_right _ (List.mem_append_right _ (List.mem_append_right _ (List.mem_append_left _ (List.mem_of_getElem? (i := 166) rfl)))))))) rfl
theorem tw_1367 : (Jvm.Cond.code ({ cls := "BoyBishopModel", name := "puts", desc := "(II)V" } : Jvm.MethodName) prog_14_method_18_code (3 : Nat) (Option.none : Option Jvm.ClassFile.FieldType)) ∈ gT := gT_in (List.mem_append_right _ (List.mem_append_right _ (List.mem_append_right _ (List.mem_append_right _ (List.mem_append_right _ (List.mem_append_right _ (List.mem_append_left _ (List.mem_of_getElem? (i := 167) rfl)))))))) rfl
theorem tw_1368 : (Jvm.Cond.methodLink "BoyBishopModel" (174 : Nat) ({ cls := "BoyBishopModel", name := "wordHere", desc := "()I" } : Jvm.MethodName)) ∈ gT := gT_in (List.mem_append_right _ (List.mem_append_right _ (List.mem_append_right _ (List.mem_append_right _ (List.mem_append_right _ (List.mem_append_right _ (List.mem_append_left _ (List.mem_of_getElem? (i := 168) rfl)))))))) rfl
theorem tw_1370 : (Jvm.Cond.instanceMethod ({ cls := "BoyBishopModel", name := "wordHere", desc := "()I" } : Jvm.MethodName)) ∈ gT := gT_in (List.mem_append_right _ (List.mem_append_right _ (List.mem_append_right _ (List.mem_append_right _ (List.mem_append_right _ (List.mem_append_right _ (List.mem_append_left _ (List.mem_of_getElem? (i := 170) rfl)))))))) rfl
theorem tw_1371 : (Jvm.Cond.code ({ cls := "BoyBishopModel", name := "wordHere", desc := "()I" } : Jvm.MethodName) prog_14_method_17_code (1 : Nat) (Option.some Jvm.ClassFile.FieldType.int)) ∈ gT := gT_in (List.mem_append_right _ (List.mem_append_right _ (List.mem_append_right _ (List.mem_append_right _ (List.mem_append_right _ (List.mem_append_right _ (List.mem_append_left _ (List.mem_of_getElem? (i := 171) rfl)))))))) rfl
theorem tw_1411 : (Jvm.Cond.methodLink "BoyBishopModel" (159 : Nat) ({ cls := "BoyBishopModel", name := "strength", desc := "(I)I" } : Jvm.MethodName)) ∈ gT := gT_in (List.mem_append_right _ (List.mem_append_right _ (List.mem_append_right _ (List.mem_append_right _ (List.mem_append_right _ (List.mem_append_right _ (List.mem_append_left _ (List.mem_of_getElem? (i := 211) rfl)))))))) rfl
theorem tw_1412 : (Jvm.Cond.static ({ cls := "BoyBishopModel", name := "strength", desc := "(I)I" } : Jvm.MethodName)) ∈ gT := gT_in (List.mem_append_right _ (List.mem_append_right _ (List.mem_append_right _ (List.mem_append_right _ (List.mem_append_right _ (List.mem_append_right _ (List.mem_append_left _ (List.mem_of_getElem? (i := 212) rfl)))))))) rfl
theorem tw_1413 : (Jvm.Cond.code ({ cls := "BoyBishopModel", name := "strength", desc := "(I)I" } : Jvm.MethodName) prog_14_method_21_code (1 : Nat) (Option.some Jvm.ClassFile.FieldType.int)) ∈ gT := gT_in (List.mem_append_right _ (List.mem_append_right _ (List.mem_append_right _ (List.mem_append_right _ (List.mem_append_right _ (List.mem_append_right _ (List.mem_append_left _ (List.mem_of_getElem? (i := 213) rfl)))))))) rfl
theorem dX12_isInside_0 : decode cX12_isInside 0 = .ok (.iconst 0, 1) := by decide +kernel
theorem dX12_isInside_1 : decode cX12_isInside 1 = .ok (.istore_n 1, 1) := by decide +kernel
theorem dX12_isInside_2 : decode cX12_isInside 2 = .ok (.iload_n 1, 1) := by decide +kernel
theorem dX12_isInside_3 : decode cX12_isInside 3 = .ok (.aload_n 0, 1) := by decide +kernel
theorem dX12_isInside_4 : decode cX12_isInside 4 = .ok (.getfield 156, 3) := by decide +kernel
theorem dX12_isInside_7 : decode cX12_isInside 7 = .ok (.if_icmp .ge 22, 3) := by decide +kernel
theorem dX12_isInside_10 : decode cX12_isInside 10 = .ok (.aload_n 0, 1) := by decide +kernel
theorem dX12_isInside_11 : decode cX12_isInside 11 = .ok (.getfield 29, 3) := by decide +kernel
theorem dX12_isInside_14 : decode cX12_isInside 14 = .ok (.iload_n 1, 1) := by decide +kernel
theorem dX12_isInside_15 : decode cX12_isInside 15 = .ok (.iaload, 1) := by decide +kernel
theorem dX12_isInside_16 : decode cX12_isInside 16 = .ok (.bipush 91, 2) := by decide +kernel
theorem dX12_isInside_18 : decode cX12_isInside 18 = .ok (.if_icmp .ne 5, 3) := by decide +kernel
theorem dX12_isInside_21 : decode cX12_isInside 21 = .ok (.iconst 1, 1) := by decide +kernel
theorem dX12_isInside_22 : decode cX12_isInside 22 = .ok (.ireturn, 1) := by decide +kernel
theorem dX12_isInside_23 : decode cX12_isInside 23 = .ok (.iinc 1 1, 3) := by decide +kernel
theorem dX12_isInside_26 : decode cX12_isInside 26 = .ok (.goto (-24), 3) := by decide +kernel
theorem dX12_isInside_29 : decode cX12_isInside 29 = .ok (.iconst 0, 1) := by decide +kernel
theorem dX12_isInside_30 : decode cX12_isInside 30 = .ok (.ireturn, 1) := by decide +kernel
theorem dX12_makes_0 : decode cX12_makes 0 = .ok (.aload_n 0, 1) := by decide +kernel
theorem dX12_makes_1 : decode cX12_makes 1 = .ok (.getfield 150, 3) := by decide +kernel
theorem dX12_makes_4 : decode cX12_makes 4 = .ok (.bipush 60, 2) := by decide +kernel
theorem dX12_makes_6 : decode cX12_makes 6 = .ok (.if_icmp .ne 10, 3) := by decide +kernel
theorem dX12_makes_9 : decode cX12_makes 9 = .ok (.aload_n 0, 1) := by decide +kernel
theorem dX12_makes_10 : decode cX12_makes 10 = .ok (.iconst 3, 1) := by decide +kernel
theorem dX12_makes_11 : decode cX12_makes 11 = .ok (.iload_n 1, 1) := by decide +kernel
theorem dX12_makes_12 : decode cX12_makes 12 = .ok (.invokevirtual 114, 3) := by decide +kernel
theorem dX12_makes_15 : decode cX12_makes 15 = .ok (.ireturn, 1) := by decide +kernel
theorem dX12_makes_16 : decode cX12_makes 16 = .ok (.aload_n 0, 1) := by decide +kernel
theorem dX12_makes_17 : decode cX12_makes 17 = .ok (.dup, 1) := by decide +kernel
theorem dX12_makes_18 : decode cX12_makes 18 = .ok (.getfield 150, 3) := by decide +kernel
theorem dX12_makes_21 : decode cX12_makes 21 = .ok (.iconst 1, 1) := by decide +kernel
theorem dX12_makes_22 : decode cX12_makes 22 = .ok (.iadd, 1) := by decide +kernel
theorem dX12_makes_23 : decode cX12_makes 23 = .ok (.putfield 150, 3) := by decide +kernel
theorem dX12_makes_26 : decode cX12_makes 26 = .ok (.iconst 1, 1) := by decide +kernel
theorem dX12_makes_27 : decode cX12_makes 27 = .ok (.ireturn, 1) := by decide +kernel
theorem dX12_puts_0 : decode cX12_puts 0 = .ok (.aload_n 0, 1) := by decide +kernel
theorem dX12_puts_1 : decode cX12_puts 1 = .ok (.getfield 13, 3) := by decide +kernel
theorem dX12_puts_4 : decode cX12_puts 4 = .ok (.sipush 400, 3) := by decide +kernel
theorem dX12_puts_7 : decode cX12_puts 7 = .ok (.aload_n 0, 1) := by decide +kernel
theorem dX12_puts_8 : decode cX12_puts 8 = .ok (.getfield 147, 3) := by decide +kernel
theorem dX12_puts_11 : decode cX12_puts 11 = .ok (.imul, 1) := by decide +kernel
theorem dX12_puts_12 : decode cX12_puts 12 = .ok (.aload_n 0, 1) := by decide +kernel
theorem dX12_puts_13 : decode cX12_puts 13 = .ok (.getfield 17, 3) := by decide +kernel
theorem dX12_puts_16 : decode cX12_puts 16 = .ok (.aload_n 0, 1) := by decide +kernel
theorem dX12_puts_17 : decode cX12_puts 17 = .ok (.getfield 147, 3) := by decide +kernel
theorem dX12_puts_20 : decode cX12_puts 20 = .ok (.iaload, 1) := by decide +kernel
theorem dX12_puts_21 : decode cX12_puts 21 = .ok (.iadd, 1) := by decide +kernel
theorem dX12_puts_22 : decode cX12_puts 22 = .ok (.iload_n 1, 1) := by decide +kernel
theorem dX12_puts_23 : decode cX12_puts 23 = .ok (.bipush 16, 2) := by decide +kernel
theorem dX12_puts_25 : decode cX12_puts 25 = .ok (.iload_n 2, 1) := by decide +kernel
theorem dX12_puts_26 : decode cX12_puts 26 = .ok (.imul, 1) := by decide +kernel
theorem dX12_puts_27 : decode cX12_puts 27 = .ok (.iadd, 1) := by decide +kernel
theorem dX12_puts_28 : decode cX12_puts 28 = .ok (.iastore, 1) := by decide +kernel
theorem dX12_puts_29 : decode cX12_puts 29 = .ok (.aload_n 0, 1) := by decide +kernel
theorem dX12_puts_30 : decode cX12_puts 30 = .ok (.getfield 17, 3) := by decide +kernel
theorem dX12_puts_33 : decode cX12_puts 33 = .ok (.aload_n 0, 1) := by decide +kernel
theorem dX12_puts_34 : decode cX12_puts 34 = .ok (.getfield 147, 3) := by decide +kernel
theorem dX12_puts_37 : decode cX12_puts 37 = .ok (.dup2, 1) := by decide +kernel
theorem dX12_puts_38 : decode cX12_puts 38 = .ok (.iaload, 1) := by decide +kernel
theorem dX12_puts_39 : decode cX12_puts 39 = .ok (.iconst 1, 1) := by decide +kernel
theorem dX12_puts_40 : decode cX12_puts 40 = .ok (.iadd, 1) := by decide +kernel
theorem dX12_puts_41 : decode cX12_puts 41 = .ok (.iastore, 1) := by decide +kernel
theorem dX12_puts_42 : decode cX12_puts 42 = .ok (.return_, 1) := by decide +kernel
theorem dX12_settles_0 : decode cX12_settles 0 = .ok (.aload_n 0, 1) := by decide +kernel
theorem dX12_settles_1 : decode cX12_settles 1 = .ok (.getfield 156, 3) := by decide +kernel
theorem dX12_settles_4 : decode cX12_settles 4 = .ok (.ifCond .le 72, 3) := by decide +kernel
theorem dX12_settles_7 : decode cX12_settles 7 = .ok (.aload_n 0, 1) := by decide +kernel
theorem dX12_settles_8 : decode cX12_settles 8 = .ok (.getfield 29, 3) := by decide +kernel
theorem dX12_settles_11 : decode cX12_settles 11 = .ok (.aload_n 0, 1) := by decide +kernel
theorem dX12_settles_12 : decode cX12_settles 12 = .ok (.getfield 156, 3) := by decide +kernel
theorem dX12_settles_15 : decode cX12_settles 15 = .ok (.iconst 1, 1) := by decide +kernel
theorem dX12_settles_16 : decode cX12_settles 16 = .ok (.isub, 1) := by decide +kernel
theorem dX12_settles_17 : decode cX12_settles 17 = .ok (.iaload, 1) := by decide +kernel
theorem dX12_settles_18 : decode cX12_settles 18 = .ok (.invokestatic 159, 3) := by decide +kernel
theorem dX12_settles_21 : decode cX12_settles 21 = .ok (.iload_n 1, 1) := by decide +kernel
theorem dX12_settles_22 : decode cX12_settles 22 = .ok (.if_icmp .lt 54, 3) := by decide +kernel
theorem dX12_settles_25 : decode cX12_settles 25 = .ok (.aload_n 0, 1) := by decide +kernel
theorem dX12_settles_26 : decode cX12_settles 26 = .ok (.dup, 1) := by decide +kernel
theorem dX12_settles_27 : decode cX12_settles 27 = .ok (.getfield 156, 3) := by decide +kernel
theorem dX12_settles_30 : decode cX12_settles 30 = .ok (.iconst 1, 1) := by decide +kernel
theorem dX12_settles_31 : decode cX12_settles 31 = .ok (.isub, 1) := by decide +kernel
theorem dX12_settles_32 : decode cX12_settles 32 = .ok (.putfield 156, 3) := by decide +kernel
theorem dX12_settles_35 : decode cX12_settles 35 = .ok (.aload_n 0, 1) := by decide +kernel
theorem dX12_settles_36 : decode cX12_settles 36 = .ok (.aload_n 0, 1) := by decide +kernel
theorem dX12_settles_37 : decode cX12_settles 37 = .ok (.getfield 29, 3) := by decide +kernel
theorem dX12_settles_40 : decode cX12_settles 40 = .ok (.aload_n 0, 1) := by decide +kernel
theorem dX12_settles_41 : decode cX12_settles 41 = .ok (.getfield 156, 3) := by decide +kernel
theorem dX12_settles_44 : decode cX12_settles 44 = .ok (.iaload, 1) := by decide +kernel
theorem dX12_settles_45 : decode cX12_settles 45 = .ok (.iconst 0, 1) := by decide +kernel
theorem dX12_settles_46 : decode cX12_settles 46 = .ok (.invokevirtual 163, 3) := by decide +kernel
theorem dX12_settles_49 : decode cX12_settles 49 = .ok (.aload_n 0, 1) := by decide +kernel
theorem dX12_settles_50 : decode cX12_settles 50 = .ok (.getfield 29, 3) := by decide +kernel
theorem dX12_settles_53 : decode cX12_settles 53 = .ok (.aload_n 0, 1) := by decide +kernel
theorem dX12_settles_54 : decode cX12_settles 54 = .ok (.getfield 156, 3) := by decide +kernel
theorem dX12_settles_57 : decode cX12_settles 57 = .ok (.iaload, 1) := by decide +kernel
theorem dX12_settles_58 : decode cX12_settles 58 = .ok (.bipush 11, 2) := by decide +kernel
theorem dX12_settles_60 : decode cX12_settles 60 = .ok (.if_icmp .ne (-60), 3) := by decide +kernel
theorem dX12_settles_63 : decode cX12_settles 63 = .ok (.aload_n 0, 1) := by decide +kernel
theorem dX12_settles_64 : decode cX12_settles 64 = .ok (.dup, 1) := by decide +kernel
theorem dX12_settles_65 : decode cX12_settles 65 = .ok (.getfield 153, 3) := by decide +kernel
theorem dX12_settles_68 : decode cX12_settles 68 = .ok (.iconst 1, 1) := by decide +kernel
theorem dX12_settles_69 : decode cX12_settles 69 = .ok (.isub, 1) := by decide +kernel
theorem dX12_settles_70 : decode cX12_settles 70 = .ok (.putfield 153, 3) := by decide +kernel
theorem dX12_settles_73 : decode cX12_settles 73 = .ok (.goto (-73), 3) := by decide +kernel
theorem dX12_settles_76 : decode cX12_settles 76 = .ok (.return_, 1) := by decide +kernel
theorem dX12_strength_0 : decode cX12_strength 0 = .ok (.iload_n 0, 1) := by decide +kernel
theorem dX12_strength_1 : decode cX12_strength 1 = .ok (.bipush 13, 2) := by decide +kernel
theorem dX12_strength_3 : decode cX12_strength 3 = .ok (.if_icmp .ne 7, 3) := by decide +kernel
theorem dX12_strength_6 : decode cX12_strength 6 = .ok (.iconst 1, 1) := by decide +kernel
theorem dX12_strength_7 : decode cX12_strength 7 = .ok (.goto 24, 3) := by decide +kernel
theorem dX12_strength_10 : decode cX12_strength 10 = .ok (.iload_n 0, 1) := by decide +kernel
theorem dX12_strength_11 : decode cX12_strength 11 = .ok (.bipush 12, 2) := by decide +kernel
theorem dX12_strength_13 : decode cX12_strength 13 = .ok (.if_icmp .ne 7, 3) := by decide +kernel
theorem dX12_strength_16 : decode cX12_strength 16 = .ok (.iconst 2, 1) := by decide +kernel
theorem dX12_strength_17 : decode cX12_strength 17 = .ok (.goto 14, 3) := by decide +kernel
theorem dX12_strength_20 : decode cX12_strength 20 = .ok (.iload_n 0, 1) := by decide +kernel
theorem dX12_strength_21 : decode cX12_strength 21 = .ok (.bipush 11, 2) := by decide +kernel
theorem dX12_strength_23 : decode cX12_strength 23 = .ok (.if_icmp .ne 7, 3) := by decide +kernel
theorem dX12_strength_26 : decode cX12_strength 26 = .ok (.iconst 3, 1) := by decide +kernel
theorem dX12_strength_27 : decode cX12_strength 27 = .ok (.goto 4, 3) := by decide +kernel
theorem dX12_strength_30 : decode cX12_strength 30 = .ok (.iconst 0, 1) := by decide +kernel
theorem dX12_strength_31 : decode cX12_strength 31 = .ok (.ireturn, 1) := by decide +kernel
theorem dX12_sum_0 : decode cX12_sum 0 = .ok (.aload_n 0, 1) := by decide +kernel
theorem dX12_sum_1 : decode cX12_sum 1 = .ok (.invokevirtual 181, 3) := by decide +kernel
theorem dX12_sum_4 : decode cX12_sum 4 = .ok (.ifCond .ne 5, 3) := by decide +kernel
theorem dX12_sum_7 : decode cX12_sum 7 = .ok (.iconst 0, 1) := by decide +kernel
theorem dX12_sum_8 : decode cX12_sum 8 = .ok (.ireturn, 1) := by decide +kernel
theorem dX12_sum_9 : decode cX12_sum 9 = .ok (.aload_n 0, 1) := by decide +kernel
theorem dX12_sum_10 : decode cX12_sum 10 = .ok (.invokevirtual 96, 3) := by decide +kernel
theorem dX12_sum_13 : decode cX12_sum 13 = .ok (.bipush 43, 2) := by decide +kernel
theorem dX12_sum_15 : decode cX12_sum 15 = .ok (.if_icmp .eq 12, 3) := by decide +kernel
theorem dX12_sum_18 : decode cX12_sum 18 = .ok (.aload_n 0, 1) := by decide +kernel
theorem dX12_sum_19 : decode cX12_sum 19 = .ok (.invokevirtual 96, 3) := by decide +kernel
theorem dX12_sum_22 : decode cX12_sum 22 = .ok (.bipush 45, 2) := by decide +kernel
theorem dX12_sum_24 : decode cX12_sum 24 = .ok (.if_icmp .ne 51, 3) := by decide +kernel
theorem dX12_sum_27 : decode cX12_sum 27 = .ok (.aload_n 0, 1) := by decide +kernel
theorem dX12_sum_28 : decode cX12_sum 28 = .ok (.getfield 7, 3) := by decide +kernel
theorem dX12_sum_31 : decode cX12_sum 31 = .ok (.aload_n 0, 1) := by decide +kernel
theorem dX12_sum_32 : decode cX12_sum 32 = .ok (.getfield 93, 3) := by decide +kernel
theorem dX12_sum_35 : decode cX12_sum 35 = .ok (.baload, 1) := by decide +kernel
theorem dX12_sum_36 : decode cX12_sum 36 = .ok (.bipush 43, 2) := by decide +kernel
theorem dX12_sum_38 : decode cX12_sum 38 = .ok (.if_icmp .ne 7, 3) := by decide +kernel
theorem dX12_sum_41 : decode cX12_sum 41 = .ok (.iconst 2, 1) := by decide +kernel
theorem dX12_sum_42 : decode cX12_sum 42 = .ok (.goto 4, 3) := by decide +kernel
theorem dX12_sum_45 : decode cX12_sum 45 = .ok (.iconst 3, 1) := by decide +kernel
theorem dX12_sum_46 : decode cX12_sum 46 = .ok (.istore_n 1, 1) := by decide +kernel
theorem dX12_sum_47 : decode cX12_sum 47 = .ok (.aload_n 0, 1) := by decide +kernel
theorem dX12_sum_48 : decode cX12_sum 48 = .ok (.dup, 1) := by decide +kernel
theorem dX12_sum_49 : decode cX12_sum 49 = .ok (.getfield 93, 3) := by decide +kernel
theorem dX12_sum_52 : decode cX12_sum 52 = .ok (.iconst 1, 1) := by decide +kernel
theorem dX12_sum_53 : decode cX12_sum 53 = .ok (.iadd, 1) := by decide +kernel
theorem dX12_sum_54 : decode cX12_sum 54 = .ok (.putfield 93, 3) := by decide +kernel
theorem dX12_sum_57 : decode cX12_sum 57 = .ok (.aload_n 0, 1) := by decide +kernel
theorem dX12_sum_58 : decode cX12_sum 58 = .ok (.invokevirtual 181, 3) := by decide +kernel
theorem dX12_sum_61 : decode cX12_sum 61 = .ok (.ifCond .ne 5, 3) := by decide +kernel
theorem dX12_sum_64 : decode cX12_sum 64 = .ok (.iconst 0, 1) := by decide +kernel
theorem dX12_sum_65 : decode cX12_sum 65 = .ok (.ireturn, 1) := by decide +kernel
theorem dX12_sum_66 : decode cX12_sum 66 = .ok (.aload_n 0, 1) := by decide +kernel
theorem dX12_sum_67 : decode cX12_sum 67 = .ok (.iload_n 1, 1) := by decide +kernel
theorem dX12_sum_68 : decode cX12_sum 68 = .ok (.iconst 0, 1) := by decide +kernel
theorem dX12_sum_69 : decode cX12_sum 69 = .ok (.invokevirtual 163, 3) := by decide +kernel
theorem dX12_sum_72 : decode cX12_sum 72 = .ok (.goto (-63), 3) := by decide +kernel
theorem dX12_sum_75 : decode cX12_sum 75 = .ok (.iconst 1, 1) := by decide +kernel
theorem dX12_sum_76 : decode cX12_sum 76 = .ok (.ireturn, 1) := by decide +kernel
theorem dX12_term_0 : decode cX12_term 0 = .ok (.aload_n 0, 1) := by decide +kernel
theorem dX12_term_1 : decode cX12_term 1 = .ok (.invokevirtual 177, 3) := by decide +kernel
theorem dX12_term_4 : decode cX12_term 4 = .ok (.ifCond .ne 5, 3) := by decide +kernel
theorem dX12_term_7 : decode cX12_term 7 = .ok (.iconst 0, 1) := by decide +kernel
theorem dX12_term_8 : decode cX12_term 8 = .ok (.ireturn, 1) := by decide +kernel
theorem dX12_term_9 : decode cX12_term 9 = .ok (.aload_n 0, 1) := by decide +kernel
theorem dX12_term_10 : decode cX12_term 10 = .ok (.invokevirtual 96, 3) := by decide +kernel
theorem dX12_term_13 : decode cX12_term 13 = .ok (.bipush 42, 2) := by decide +kernel
theorem dX12_term_15 : decode cX12_term 15 = .ok (.if_icmp .eq 21, 3) := by decide +kernel
theorem dX12_term_18 : decode cX12_term 18 = .ok (.aload_n 0, 1) := by decide +kernel
theorem dX12_term_19 : decode cX12_term 19 = .ok (.invokevirtual 96, 3) := by decide +kernel
theorem dX12_term_22 : decode cX12_term 22 = .ok (.bipush 47, 2) := by decide +kernel
theorem dX12_term_24 : decode cX12_term 24 = .ok (.if_icmp .eq 12, 3) := by decide +kernel
theorem dX12_term_27 : decode cX12_term 27 = .ok (.aload_n 0, 1) := by decide +kernel
theorem dX12_term_28 : decode cX12_term 28 = .ok (.invokevirtual 96, 3) := by decide +kernel
theorem dX12_term_31 : decode cX12_term 31 = .ok (.bipush 37, 2) := by decide +kernel
theorem dX12_term_33 : decode cX12_term 33 = .ok (.if_icmp .ne 70, 3) := by decide +kernel
theorem dX12_term_36 : decode cX12_term 36 = .ok (.aload_n 0, 1) := by decide +kernel
theorem dX12_term_37 : decode cX12_term 37 = .ok (.getfield 7, 3) := by decide +kernel
theorem dX12_term_40 : decode cX12_term 40 = .ok (.aload_n 0, 1) := by decide +kernel
theorem dX12_term_41 : decode cX12_term 41 = .ok (.getfield 93, 3) := by decide +kernel
theorem dX12_term_44 : decode cX12_term 44 = .ok (.baload, 1) := by decide +kernel
theorem dX12_term_45 : decode cX12_term 45 = .ok (.bipush 42, 2) := by decide +kernel
theorem dX12_term_47 : decode cX12_term 47 = .ok (.if_icmp .ne 7, 3) := by decide +kernel
theorem dX12_term_50 : decode cX12_term 50 = .ok (.iconst 4, 1) := by decide +kernel
theorem dX12_term_51 : decode cX12_term 51 = .ok (.goto 23, 3) := by decide +kernel
theorem dX12_term_54 : decode cX12_term 54 = .ok (.aload_n 0, 1) := by decide +kernel
theorem dX12_term_55 : decode cX12_term 55 = .ok (.getfield 7, 3) := by decide +kernel
theorem dX12_term_58 : decode cX12_term 58 = .ok (.aload_n 0, 1) := by decide +kernel
theorem dX12_term_59 : decode cX12_term 59 = .ok (.getfield 93, 3) := by decide +kernel
theorem dX12_term_62 : decode cX12_term 62 = .ok (.baload, 1) := by decide +kernel
theorem dX12_term_63 : decode cX12_term 63 = .ok (.bipush 47, 2) := by decide +kernel
theorem dX12_term_65 : decode cX12_term 65 = .ok (.if_icmp .ne 7, 3) := by decide +kernel
theorem dX12_term_68 : decode cX12_term 68 = .ok (.iconst 5, 1) := by decide +kernel
theorem dX12_term_69 : decode cX12_term 69 = .ok (.goto 5, 3) := by decide +kernel
theorem dX12_term_72 : decode cX12_term 72 = .ok (.bipush 14, 2) := by decide +kernel
theorem dX12_term_74 : decode cX12_term 74 = .ok (.istore_n 1, 1) := by decide +kernel
theorem dX12_term_75 : decode cX12_term 75 = .ok (.aload_n 0, 1) := by decide +kernel
theorem dX12_term_76 : decode cX12_term 76 = .ok (.dup, 1) := by decide +kernel
theorem dX12_term_77 : decode cX12_term 77 = .ok (.getfield 93, 3) := by decide +kernel
theorem dX12_term_80 : decode cX12_term 80 = .ok (.iconst 1, 1) := by decide +kernel
theorem dX12_term_81 : decode cX12_term 81 = .ok (.iadd, 1) := by decide +kernel
theorem dX12_term_82 : decode cX12_term 82 = .ok (.putfield 93, 3) := by decide +kernel
theorem dX12_term_85 : decode cX12_term 85 = .ok (.aload_n 0, 1) := by decide +kernel
theorem dX12_term_86 : decode cX12_term 86 = .ok (.invokevirtual 177, 3) := by decide +kernel
theorem dX12_term_89 : decode cX12_term 89 = .ok (.ifCond .ne 5, 3) := by decide +kernel
theorem dX12_term_92 : decode cX12_term 92 = .ok (.iconst 0, 1) := by decide +kernel
theorem dX12_term_93 : decode cX12_term 93 = .ok (.ireturn, 1) := by decide +kernel
theorem dX12_term_94 : decode cX12_term 94 = .ok (.aload_n 0, 1) := by decide +kernel
theorem dX12_term_95 : decode cX12_term 95 = .ok (.iload_n 1, 1) := by decide +kernel
theorem dX12_term_96 : decode cX12_term 96 = .ok (.iconst 0, 1) := by decide +kernel
theorem dX12_term_97 : decode cX12_term 97 = .ok (.invokevirtual 163, 3) := by decide +kernel
theorem dX12_term_100 : decode cX12_term 100 = .ok (.goto (-91), 3) := by decide +kernel
theorem dX12_term_103 : decode cX12_term 103 = .ok (.iconst 1, 1) := by decide +kernel
theorem dX12_term_104 : decode cX12_term 104 = .ok (.ireturn, 1) := by decide +kernel
theorem dX12_value_0 : decode cX12_value 0 = .ok (.aload_n 0, 1) := by decide +kernel
theorem dX12_value_1 : decode cX12_value 1 = .ok (.invokevirtual 96, 3) := by decide +kernel
theorem dX12_value_4 : decode cX12_value 4 = .ok (.pop, 1) := by decide +kernel
theorem dX12_value_5 : decode cX12_value 5 = .ok (.aload_n 0, 1) := by decide +kernel
theorem dX12_value_6 : decode cX12_value 6 = .ok (.getfield 93, 3) := by decide +kernel
theorem dX12_value_9 : decode cX12_value 9 = .ok (.istore_n 1, 1) := by decide +kernel
theorem dX12_value_10 : decode cX12_value 10 = .ok (.aload_n 0, 1) := by decide +kernel
theorem dX12_value_11 : decode cX12_value 11 = .ok (.aload_n 0, 1) := by decide +kernel
theorem dX12_value_12 : decode cX12_value 12 = .ok (.getfield 93, 3) := by decide +kernel
theorem dX12_value_15 : decode cX12_value 15 = .ok (.invokevirtual 111, 3) := by decide +kernel
theorem dX12_value_18 : decode cX12_value 18 = .ok (.ifCond .eq 34, 3) := by decide +kernel
theorem dX12_value_21 : decode cX12_value 21 = .ok (.aload_n 0, 1) := by decide +kernel
theorem dX12_value_22 : decode cX12_value 22 = .ok (.iconst 0, 1) := by decide +kernel
theorem dX12_value_23 : decode cX12_value 23 = .ok (.ldc 167, 2) := by decide +kernel
theorem dX12_value_25 : decode cX12_value 25 = .ok (.invokevirtual 168, 3) := by decide +kernel
theorem dX12_value_28 : decode cX12_value 28 = .ok (.ifCond .eq 11, 3) := by decide +kernel
theorem dX12_value_31 : decode cX12_value 31 = .ok (.aload_n 0, 1) := by decide +kernel
theorem dX12_value_32 : decode cX12_value 32 = .ok (.iload_n 1, 1) := by decide +kernel
theorem dX12_value_33 : decode cX12_value 33 = .ok (.invokevirtual 171, 3) := by decide +kernel
theorem dX12_value_36 : decode cX12_value 36 = .ok (.ifCond .ne 5, 3) := by decide +kernel
theorem dX12_value_39 : decode cX12_value 39 = .ok (.iconst 0, 1) := by decide +kernel
theorem dX12_value_40 : decode cX12_value 40 = .ok (.ireturn, 1) := by decide +kernel
theorem dX12_value_41 : decode cX12_value 41 = .ok (.aload_n 0, 1) := by decide +kernel
theorem dX12_value_42 : decode cX12_value 42 = .ok (.iconst 0, 1) := by decide +kernel
theorem dX12_value_43 : decode cX12_value 43 = .ok (.aload_n 0, 1) := by decide +kernel
theorem dX12_value_44 : decode cX12_value 44 = .ok (.getfield 118, 3) := by decide +kernel
theorem dX12_value_47 : decode cX12_value 47 = .ok (.invokevirtual 163, 3) := by decide +kernel
theorem dX12_value_50 : decode cX12_value 50 = .ok (.iconst 1, 1) := by decide +kernel
theorem dX12_value_51 : decode cX12_value 51 = .ok (.ireturn, 1) := by decide +kernel
theorem dX12_value_52 : decode cX12_value 52 = .ok (.aload_n 0, 1) := by decide +kernel
theorem dX12_value_53 : decode cX12_value 53 = .ok (.invokevirtual 174, 3) := by decide +kernel
theorem dX12_value_56 : decode cX12_value 56 = .ok (.istore_n 2, 1) := by decide +kernel
theorem dX12_value_57 : decode cX12_value 57 = .ok (.iload_n 2, 1) := by decide +kernel
theorem dX12_value_58 : decode cX12_value 58 = .ok (.ifCond .ge 10, 3) := by decide +kernel
theorem dX12_value_61 : decode cX12_value 61 = .ok (.aload_n 0, 1) := by decide +kernel
theorem dX12_value_62 : decode cX12_value 62 = .ok (.iconst 0, 1) := by decide +kernel
theorem dX12_value_63 : decode cX12_value 63 = .ok (.iload_n 1, 1) := by decide +kernel
theorem dX12_value_64 : decode cX12_value 64 = .ok (.invokevirtual 114, 3) := by decide +kernel
theorem dX12_value_67 : decode cX12_value 67 = .ok (.ireturn, 1) := by decide +kernel
theorem dX12_value_68 : decode cX12_value 68 = .ok (.aload_n 0, 1) := by decide +kernel
theorem dX12_value_69 : decode cX12_value 69 = .ok (.iload_n 1, 1) := by decide +kernel
theorem dX12_value_70 : decode cX12_value 70 = .ok (.invokevirtual 171, 3) := by decide +kernel
theorem dX12_value_73 : decode cX12_value 73 = .ok (.ifCond .ne 5, 3) := by decide +kernel
theorem dX12_value_76 : decode cX12_value 76 = .ok (.iconst 0, 1) := by decide +kernel
theorem dX12_value_77 : decode cX12_value 77 = .ok (.ireturn, 1) := by decide +kernel
theorem dX12_value_78 : decode cX12_value 78 = .ok (.aload_n 0, 1) := by decide +kernel
theorem dX12_value_79 : decode cX12_value 79 = .ok (.invokevirtual 108, 3) := by decide +kernel
theorem dX12_value_82 : decode cX12_value 82 = .ok (.aload_n 0, 1) := by decide +kernel
theorem dX12_value_83 : decode cX12_value 83 = .ok (.iconst 1, 1) := by decide +kernel
theorem dX12_value_84 : decode cX12_value 84 = .ok (.iload_n 2, 1) := by decide +kernel
theorem dX12_value_85 : decode cX12_value 85 = .ok (.invokevirtual 163, 3) := by decide +kernel
theorem dX12_value_88 : decode cX12_value 88 = .ok (.iconst 1, 1) := by decide +kernel
theorem dX12_value_89 : decode cX12_value 89 = .ok (.ireturn, 1) := by decide +kernel
theorem li_13 : (13 : Int32).toInt = 13 := by decide
theorem li_14 : (14 : Int32).toInt = 14 := by decide
theorem li_37 : (37 : Int32).toInt = 37 := by decide
theorem li_43 : (43 : Int32).toInt = 43 := by decide
theorem li_45 : (45 : Int32).toInt = 45 := by decide
theorem li_47 : (47 : Int32).toInt = 47 := by decide
theorem li_91 : (91 : Int32).toInt = 91 := by decide
set_option maxHeartbeats 4000000 in
set_option maxRecDepth 100000 in
theorem t_X12_puts (l : Launch) (dC : Nat → ClassId) (dI : Nat → Nat → Nat) (tys : List (ClassId × FieldType)) (κ : tK) (B : Nat) (ws : va_W) (hT : Ty κ tys B ws) (a0 : Nat) (k_a0 : κ a0 = some 12) (a1 : Int32) (l_a1 : 0 ≤ a1.toInt) (h_a1 : a1.toInt ≤ 15) (a2 : Int32) (l_a2 : 0 ≤ a2.toInt) (h_a2 : a2.toInt ≤ 99999) (f0 : Int32) (l_f0 : 0 ≤ f0.toInt) (h_f0 : f0.toInt ≤ 5) (f_a0_X12_11 : fld ws a0 12 11 (.int f0)) {pb pe b h φ nc : Int} (hPS : PS κ ws a0 f0.toInt.toNat pb pe b h φ nc) (hφ : φ ≤ 399) (hok : (a1.toInt = 1 → a2.toInt ≤ 10) ∧ ((a1.toInt = 0 ∨ a1.toInt = 1) → h ≤ 60) ∧ (a1.toInt = 11 → 1 ≤ h) ∧ (a1.toInt ≠ 0 → a1.toInt ≠ 1 → a1.toInt ≠ 11 → 2 ≤ h)) (sz : Nat) : Met l yX12_puts (ws_u yX12_puts cX12_puts 3 none) ({ frames := 0, cells := 0, slots := 0, locals := 0 }) (va_Pc [.ref a0, .int a1, .int a2] (cPre (dC, dI) tys ws sz)) (va_Qv (fun (w : va_W) => Ty κ tys B w ∧ Sm [] [55, 56] κ ws w ∧ (∃ h9 : Int, PS κ w a0 f0.toInt.toNat pb pe b h9 (φ + 1) nc ∧ (((a1.toInt = 0 ∨ a1.toInt = 1) ∧ h9 = h + 1) ∨ (a1.toInt = 11 ∧ h9 = h) ∨ (a1.toInt ≠ 0 ∧ a1.toInt ≠ 1 ∧ a1.toInt ≠ 11 ∧ h9 = h - 1)))) (fun w t => cPost (dC, dI) tys w (va_A ws sz) t) (va_A ws sz)) 0 0 (va_A ws sz) := by
  refine Met.ofW (cc := cX12_puts) (maxL := 3) (ret := none) (by decide) rfl ?_
  intro p e s m args below meth c s₁ B0 hml hv
  obtain ⟨rfl, hsz, hP, hK, hD0, hE⟩ := hv
  have hx := B0.exec
  have hb := B0.bytes
  have hr := B0.returns
  have hts0 := atoms_spec (ws := ws_u yX12_puts cX12_puts 3 none) B0.pre
  have hts : ∀ w ∈ gT, w.before _ s = true := fun w h => hts0 w (List.mem_cons_of_mem _ h)
  have hown : s.vm.findClass RX12 = some m.cls := findClass_of_methodNamed B0.named
  have hlocks := B0.notSynchronized
  subst hsz
  have hD := hD0.self (sz := s.heap.size)
  generalize hAe : va_A ws s.heap.size = A at hD ⊢
  have hA : ∀ q : Nat, s.heap.size ≤ q → A q := fun q h => by rw [← hAe]; exact Or.inr h
  have hw : tW (dC, dI) tys κ B A s ws s.heap [] := ⟨hK, hP, hD, va_S.rf, hT⟩
  have hM : Sm [] [55, 56] κ ws ws := Sm.rf
  clear hP hK hD hD0 hts0
  have hl := lv_entry ([.ref a0, .int a1, .int a2]) (n := 3) (Nat.le_of_ble_eq_true rfl)
  rw [lg_entry_eq]
  generalize (lg_sl ([.ref a0, .int a1, .int a2]) ++ List.replicate (3 - (lg_sl ([.ref a0, .int a1, .int a2])).length) Slot.unset).toArray = ls at hl ⊢
  have hl : lv_has ls 3 [(0, .ref a0), (1, .int a1), (2, .int a2)] := hl
  refine t_start (fun QQ hQ => ?_)
  obtain ⟨g, fl, fq, fn, hm4, hps⟩ := hPS
  have hps4 := hps.2.2.1
  have hps5 := hps.2.2.2.1
  refine lv_aload_n hx hb dX12_puts_0 rfl (lv_at hl 0 rfl) ?_
  refine t_getr (k1 := 55) (ci := 12) (C := RX12) (T := TX12) (N := 38) hx hb hts iX12 hown hw k_a0 rfl rfl rfl 3 (by decide) (hts _ tw_1128) (fun _ h9 => h9) dX12_puts_1 rfl (fun v1 k_v1 f_a0_X12_3 => ?_)
  refine lv_sipush (v := 400) hx hb dX12_puts_4 (by decide) ?_
  refine lv_aload_n hx hb dX12_puts_7 rfl (lv_at hl 0 rfl) ?_
  refine t_getk (ci := 12) (C := RX12) (T := TX12) (N := 38) hx hb hts iX12 hown hw rfl 11 (by decide) (hts _ tw_1136) (fun _ h9 => h9) dX12_puts_8 f_a0_X12_11 ?_
  refine lv_imul hx hb dX12_puts_11 ?_
  refine lv_topi (fun v11 e_v11 => ?_)
  have e_v11 : v11.toInt = 400 * f0.toInt := ml_i e_v11 li_400 rfl (by omega) (by omega)
  refine lv_aload_n hx hb dX12_puts_12 rfl (lv_at hl 0 rfl) ?_
  refine t_getr (k1 := 56) (ci := 12) (C := RX12) (T := TX12) (N := 38) hx hb hts iX12 hown hw k_a0 rfl rfl rfl 4 (by decide) (hts _ tw_1129) (fun _ h9 => h9) dX12_puts_13 rfl (fun v13 k_v13 f_a0_X12_4 => ?_)
  refine lv_aload_n hx hb dX12_puts_16 rfl (lv_at hl 0 rfl) ?_
  refine t_getk (ci := 12) (C := RX12) (T := TX12) (N := 38) hx hb hts iX12 hown hw rfl 11 (by decide) (hts _ tw_1136) (fun _ h9 => h9) dX12_puts_17 f_a0_X12_11 ?_
  refine t_iald hx hb hw k_v13 rfl rfl (by omega) (show f0.toInt < 7 by omega) dX12_puts_20 (fun v20 r_v20 s_v20 q_v20 => ?_)
  have l_v20 : 0 ≤ v20.toInt := r_v20
  have h_v20 : v20.toInt ≤ 400 := s_v20
  have hl20 := hm4.getl hw.2.2.1 f_a0_X12_4 q_v20
  have hL20 : (fl f0.toInt.toNat).toInt = v20.toInt := by rw [← hl20]
  refine lv_iadd hx hb dX12_puts_21 ?_
  refine lv_topi (fun v21 e_v21 => ?_)
  have e_v21 : v21.toInt = v11.toInt + v20.toInt := ad_i e_v21 rfl rfl (by omega) (by omega)
  refine lv_iload_n hx hb dX12_puts_22 rfl (lv_at hl 1 rfl) ?_
  refine lv_bipush (v := 16) hx hb dX12_puts_23 (by decide) ?_
  refine lv_iload_n hx hb dX12_puts_25 rfl (lv_at hl 2 rfl) ?_
  refine lv_imul hx hb dX12_puts_26 ?_
  refine lv_topi (fun v26 e_v26 => ?_)
  have e_v26 : v26.toInt = 16 * a2.toInt := ml_i e_v26 li_16 rfl (by omega) (by omega)
  refine lv_iadd hx hb dX12_puts_27 ?_
  refine lv_topi (fun v27 e_v27 => ?_)
  have e_v27 : v27.toInt = a1.toInt + v26.toInt := ad_i e_v27 rfl rfl (by omega) (by omega)
  refine t_iast hx hb hw k_v1 rfl rfl (by omega) (show v21.toInt < 2400 by omega) (i32_lo _) (i32_hi _) dX12_puts_28 (fun w_1 H locs hw u => ?_)
  have hM := hM.up3 u k_v1 (by decide)
  have f_a0_X12_11 := u.1 _ _ _ _ f_a0_X12_11
  have f_a0_X12_3 := u.1 _ _ _ _ f_a0_X12_3
  have f_a0_X12_4 := u.1 _ _ _ _ f_a0_X12_4
  have hm4 := hm4.ups hw.2.2.1 f_a0_X12_3 u
  refine lv_aload_n hx hb dX12_puts_29 rfl (lv_at hl 0 rfl) ?_
  refine t_getk (ci := 12) (C := RX12) (T := TX12) (N := 38) hx hb hts iX12 hown hw rfl 4 (by decide) (hts _ tw_1129) (fun _ h9 => h9) dX12_puts_30 f_a0_X12_4 ?_
  refine lv_aload_n hx hb dX12_puts_33 rfl (lv_at hl 0 rfl) ?_
  refine t_getk (ci := 12) (C := RX12) (T := TX12) (N := 38) hx hb hts iX12 hown hw rfl 11 (by decide) (hts _ tw_1136) (fun _ h9 => h9) dX12_puts_34 f_a0_X12_11 ?_
  refine lv_dup2_11 hx hb dX12_puts_37 rfl rfl ?_
  refine t_iald hx hb hw k_v13 rfl rfl (by omega) (show f0.toInt < 7 by omega) dX12_puts_38 (fun v38 r_v38 s_v38 q_v38 => ?_)
  have l_v38 : 0 ≤ v38.toInt := r_v38
  have h_v38 : v38.toInt ≤ 400 := s_v38
  have hl38 := hm4.getl hw.2.2.1 f_a0_X12_4 q_v38
  have hL38 : v38.toInt = v20.toInt := by rw [hl38, hL20]
  refine lv_iconst (v := 1) hx hb dX12_puts_39 (by decide) ?_
  refine lv_iadd hx hb dX12_puts_40 ?_
  refine lv_topi (fun v40 e_v40 => ?_)
  have e_v40 : v40.toInt = v38.toInt + 1 := ad_i e_v40 rfl li_1 (by omega) (by omega)
  refine t_iast hx hb hw k_v13 rfl rfl (by omega) (show f0.toInt < 7 by omega) (show 0 ≤ v40.toInt by omega) (show v40.toInt ≤ 400 by omega) dX12_puts_41 (fun w_2 H locs hw u => ?_)
  have hM := hM.up3 u k_v13 (by decide)
  have f_a0_X12_11 := u.1 _ _ _ _ f_a0_X12_11
  have f_a0_X12_3 := u.1 _ _ _ _ f_a0_X12_3
  have f_a0_X12_4 := u.1 _ _ _ _ f_a0_X12_4
  have hm4 := hm4.upl hw.2.2.1 f_a0_X12_4 u
  have ⟨hsx, hvx⟩ := sv_of (x := v27) (S := a1.toInt) (V := a2.toInt) (by omega) (by omega) (by omega) (by omega) (by omega)
  have hst : stOK v27 h := by unfold stOK; rw [hsx, hvx]; exact ⟨fun z => ⟨by omega, hok.1 z⟩, hok.2.1, hok.2.2.1, hok.2.2.2⟩
  have hc := stH_cases v27 h
  rw [hsx] at hc
  have hfin := hps.puts hφ hst (y := v40) (by omega)
  rw [show 400 * f0.toInt.toNat + (fl f0.toInt.toNat).toInt.toNat = v21.toInt.toNat by omega] at hfin
  rw [hQ]
  refine W.widen (k := 0) (n := 0) (Nat.le_refl _) (Nat.le_refl _) ?_
  exact W.vret hx hb hr (fun t ht hW => ⟨⟨w_2, rfl, ⟨hw.2.2.2.2, hM, ⟨_, ⟨_, _, _, _, hm4, hfin⟩, hc⟩⟩, by rw [ht]; exact hw.2.1, va_K.moved hW.alike hw.1, hw.2.2.1⟩, hw.2.2.2.1.F ht⟩) hw.2.2.2.1.2.2 dX12_puts_42
set_option maxHeartbeats 4000000 in
set_option maxRecDepth 100000 in
theorem t_X12_makes (l : Launch) (dC : Nat → ClassId) (dI : Nat → Nat → Nat) (tys : List (ClassId × FieldType)) (κ : tK) (B : Nat) (ws : va_W) (hT : Ty κ tys B ws) (a0 : Nat) (k_a0 : κ a0 = some 12) (a1 : Int32) (l_a1 : 0 ≤ a1.toInt) (h_a1 : a1.toInt ≤ 401) (f0 : Int32) (l_f0 : 0 ≤ f0.toInt) (h_f0 : f0.toInt ≤ 60) (f_a0_X12_12 : fld ws a0 12 12 (.int f0)) (sz : Nat) : Met l yX12_makes (ws_u yX12_makes cX12_makes 2 (some .boolean)) ({ frames := 1, cells := 0, slots := 0, locals := 22 }) (va_Pc [.ref a0, .int a1] (cPre (dC, dI) tys ws sz)) (va_Qi (fun (r : Int32) (w : va_W) => 0 ≤ r.toInt ∧ r.toInt ≤ 1 ∧ Ty κ tys B w ∧ Sm [(12, 9), (12, 12)] [] κ ws w ∧ (∃ (xm : Int32), 0 ≤ xm.toInt ∧ xm.toInt ≤ 60 ∧ fld w a0 12 12 (.int xm) ∧ (r.toInt = 0 ∨ xm.toInt = f0.toInt + 1))) (fun w t => cPost (dC, dI) tys w (va_A ws sz) t) (va_A ws sz)) 0 0 (va_A ws sz) := by
  refine Met.ofW (cc := cX12_makes) (maxL := 2) (ret := (some .boolean)) (by decide) rfl ?_
  intro p e s m args below meth c s₁ B0 hml hv
  obtain ⟨rfl, hsz, hP, hK, hD0, hE⟩ := hv
  have hx := B0.exec
  have hb := B0.bytes
  have hr := B0.returns
  have hts0 := atoms_spec (ws := ws_u yX12_makes cX12_makes 2 (some .boolean)) B0.pre
  have hts : ∀ w ∈ gT, w.before _ s = true := fun w h => hts0 w (List.mem_cons_of_mem _ h)
  have hown : s.vm.findClass RX12 = some m.cls := findClass_of_methodNamed B0.named
  have hlocks := B0.notSynchronized
  subst hsz
  have hD := hD0.self (sz := s.heap.size)
  generalize hAe : va_A ws s.heap.size = A at hD ⊢
  have hA : ∀ q : Nat, s.heap.size ≤ q → A q := fun q h => by rw [← hAe]; exact Or.inr h
  have hw : tW (dC, dI) tys κ B A s ws s.heap [] := ⟨hK, hP, hD, va_S.rf, hT⟩
  have hM : Sm [(12, 9), (12, 12)] [] κ ws ws := Sm.rf
  clear hP hK hD hD0 hts0
  have hl := lv_entry ([.ref a0, .int a1]) (n := 2) (Nat.le_of_ble_eq_true rfl)
  rw [lg_entry_eq]
  generalize (lg_sl ([.ref a0, .int a1]) ++ List.replicate (2 - (lg_sl ([.ref a0, .int a1])).length) Slot.unset).toArray = ls at hl ⊢
  have hl : lv_has ls 2 [(0, .ref a0), (1, .int a1)] := hl
  refine t_start (fun QQ hQ => ?_)
  refine lv_aload_n hx hb dX12_makes_0 rfl (lv_at hl 0 rfl) ?_
  refine t_getk (ci := 12) (C := RX12) (T := TX12) (N := 38) hx hb hts iX12 hown hw rfl 12 (by decide) (hts _ tw_1137) (fun _ h9 => h9) dX12_makes_1 f_a0_X12_12 ?_
  refine lv_bipush (v := 60) hx hb dX12_makes_4 (by decide) ?_
  refine lv_icmp_ne (tgt := 16) hx hb dX12_makes_6 (by decide) (fun c_6 => ?_) (fun c_6 => ?_)
  · simp only [fa_lt, fa_le, fa_eq, li_60] at c_6
    refine lv_aload_n hx hb dX12_makes_16 rfl (lv_at hl 0 rfl) ?_
    refine lv_dup hx hb dX12_makes_17 rfl ?_
    refine t_getk (ci := 12) (C := RX12) (T := TX12) (N := 38) hx hb hts iX12 hown hw rfl 12 (by decide) (hts _ tw_1137) (fun _ h9 => h9) dX12_makes_18 f_a0_X12_12 ?_
    refine lv_iconst (v := 1) hx hb dX12_makes_21 (by decide) ?_
    refine lv_iadd hx hb dX12_makes_22 ?_
    refine lv_topi (fun v22 e_v22 => ?_)
    have e_v22 : v22.toInt = f0.toInt + 1 := ad_i e_v22 rfl li_1 (by omega) (by omega)
    refine t_put (ci := 12) (C := RX12) (T := TX12) (N := 38) (v := .int v22) hx hb hts iX12 tyX12 tyX12_ok nmX12 hown hw k_a0 rfl rfl rfl 12 (by decide) (hts _ tw_1137) (fun _ h9 => h9) rfl (tyX12_ok 12 (by decide)) rfl rfl (okV.int rfl (by omega) (by omega)) dX12_makes_23 (fun w_1 H locs hw u => ?_)
    have hM := hM.up1 u (by decide)
    have f_a0_X12_12 := u.2.2
    refine lv_iconst (v := 1) hx hb dX12_makes_26 (by decide) ?_
    rw [hQ]
    refine W.widen (k := 0) (n := 0) (Nat.le_refl _) (Nat.le_refl _) ?_
    exact W.zret (v := 1) hx hb hr rfl (fun t ht hW => ⟨⟨1, w_1, rfl, ⟨(by decide), (by decide), hw.2.2.2.2, hM, ⟨v22, (by omega), (by omega), f_a0_X12_12, (by have := li_1; omega)⟩⟩, by rw [ht]; exact hw.2.1, va_K.moved hW.alike hw.1, hw.2.2.1⟩, hw.2.2.2.1.F ht⟩) hw.2.2.2.1.2.2 dX12_makes_27
  · simp only [fa_lt, fa_le, fa_eq, li_60] at c_6
    refine lv_aload_n hx hb dX12_makes_9 rfl (lv_at hl 0 rfl) ?_
    refine lv_iconst (v := 3) hx hb dX12_makes_10 (by decide) ?_
    refine lv_iload_n hx hb dX12_makes_11 rfl (lv_at hl 1 rfl) ?_
    refine t_calli (va_runV (As := [.int 3, .int a1]) (rest := []) ⟨hx, hb, hml, hown, hts⟩ (t_X12_fails l dC dI tys κ B ws hw.2.2.2.2 a0 k_a0 3 (by decide) (by decide) a1 (by omega) (by omega) s.heap.size) (cwV 2 hts (gUV tw_1288 tw_1290 ts_3_7 tw_13 tw_1291) rfl rfl rfl (by decide +kernel) ⟨(Nat.le_of_ble_eq_true rfl), (Nat.le_of_ble_eq_true rfl)⟩) ⟨cPre.blind, t_recv hw (ci := 12) k_a0 rfl rfl, cPre.use hw.2.1 hw.1 hw.2.2.1 hE⟩ rfl rfl hl.1 rfl (lv_room (Nat.le_of_ble_eq_true rfl)) dX12_makes_12 ⟨(Nat.le_of_ble_eq_true rfl), (Nat.le_of_ble_eq_true rfl)⟩) hw hA (fun _ _ h => h.2.2.1) (fun v12 w_2 H locs hp hw => ?_)
    obtain ⟨l_v12, h_v12, _, hm⟩ := hp
    have hM := hM.trans hm (by decide) (by decide)
    have f_a0_X12_12 := hm.1 _ _ _ _ f_a0_X12_12 (by decide)
    rw [hQ]
    refine W.widen (k := 0) (n := 0) (Nat.le_refl _) (Nat.le_refl _) ?_
    exact W.zret (v := v12) hx hb hr (nb_i (by omega) (by omega)) (fun t ht hW => ⟨⟨v12, w_2, rfl, ⟨(by omega), (by omega), hw.2.2.2.2, hM, ⟨f0, (by omega), (by omega), f_a0_X12_12, (by omega)⟩⟩, by rw [ht]; exact hw.2.1, va_K.moved hW.alike hw.1, hw.2.2.1⟩, hw.2.2.2.1.F ht⟩) hw.2.2.2.1.2.2 dX12_makes_15
set_option maxHeartbeats 4000000 in
set_option maxRecDepth 100000 in
theorem t_X12_value (l : Launch) (dC : Nat → ClassId) (dI : Nat → Nat → Nat) (tys : List (ClassId × FieldType)) (κ : tK) (B : Nat) (ws : va_W) (hT : Ty κ tys B ws) (a0 : Nat) (k_a0 : κ a0 = some 12) (f0 : Int32) (l_f0 : 0 ≤ f0.toInt) (h_f0 : f0.toInt ≤ 60) (f_a0_X12_12 : fld ws a0 12 12 (.int f0)) (f1 : Int32) (l_f1 : 0 ≤ f1.toInt) (h_f1 : f1.toInt ≤ 5) (f_a0_X12_11 : fld ws a0 12 11 (.int f1)) {pb pe b h φ nc : Int} (hPS : PS κ ws a0 f1.toInt.toNat pb pe b h φ nc) (hφ : φ ≤ 2 * f0.toInt + 250) (h0 : 0 ≤ h) (hh : h ≤ f0.toInt) (sz : Nat) : Met l yX12_value (ws_u yX12_value cX12_value 3 (some .boolean)) ({ frames := 3, cells := 0, slots := 0, locals := 66 }) (va_Pc [.ref a0] (cPre (dC, dI) tys ws sz)) (va_Qi (fun (r : Int32) (w : va_W) => 0 ≤ r.toInt ∧ r.toInt ≤ 1 ∧ Ty κ tys B w ∧ Sm [(12, 8), (12, 9), (12, 10), (12, 12)] [55, 56] κ ws w ∧ (∃ (xm : Int32), 0 ≤ xm.toInt ∧ xm.toInt ≤ 60 ∧ fld w a0 12 12 (.int xm) ∧ (r.toInt = 0 ∨ xm.toInt = f0.toInt + 1) ∧ Alt r (RT κ w a0) (PS κ w a0 f1.toInt.toNat pb pe b (h + 1) (φ + 1) nc))) (fun w t => cPost (dC, dI) tys w (va_A ws sz) t) (va_A ws sz)) 0 0 (va_A ws sz) := by
  refine Met.ofW (cc := cX12_value) (maxL := 3) (ret := (some .boolean)) (by decide) rfl ?_
  intro p e s m args below meth c s₁ B0 hml hv
  obtain ⟨rfl, hsz, hP, hK, hD0, hE⟩ := hv
  have hx := B0.exec
  have hb := B0.bytes
  have hr := B0.returns
  have hts0 := atoms_spec (ws := ws_u yX12_value cX12_value 3 (some .boolean)) B0.pre
  have hts : ∀ w ∈ gT, w.before _ s = true := fun w h => hts0 w (List.mem_cons_of_mem _ h)
  have hown : s.vm.findClass RX12 = some m.cls := findClass_of_methodNamed B0.named
  have hlocks := B0.notSynchronized
  subst hsz
  have hD := hD0.self (sz := s.heap.size)
  generalize hAe : va_A ws s.heap.size = A at hD ⊢
  have hA : ∀ q : Nat, s.heap.size ≤ q → A q := fun q h => by rw [← hAe]; exact Or.inr h
  have hw : tW (dC, dI) tys κ B A s ws s.heap [] := ⟨hK, hP, hD, va_S.rf, hT⟩
  have hM : Sm [(12, 8), (12, 9), (12, 10), (12, 12)] [55, 56] κ ws ws := Sm.rf
  clear hP hK hD hD0 hts0
  have hl := lv_entry ([.ref a0]) (n := 3) (Nat.le_of_ble_eq_true rfl)
  rw [lg_entry_eq]
  generalize (lg_sl ([.ref a0]) ++ List.replicate (3 - (lg_sl ([.ref a0])).length) Slot.unset).toArray = ls at hl ⊢
  have hl : lv_has ls 3 [(0, .ref a0)] := hl
  refine t_start (fun QQ hQ => ?_)
  have hRT := hPS.rt
  refine lv_aload_n hx hb dX12_value_0 rfl (lv_at hl 0 rfl) ?_
  obtain ⟨u_v1q0, q_v1q0, f_a0_X12_8⟩ := t_peek (k := 8) hw.2.2.2.2 k_a0 rfl (by decide)
  obtain ⟨v1q0, rfl, l_v1q0, h_v1q0⟩ := q_v1q0.geti (lo := 0) (hi := 401) rfl
  obtain ⟨u_v1q1, q_v1q1, f_a0_X12_1⟩ := t_peek (k := 1) hw.2.2.2.2 k_a0 rfl (by decide)
  obtain ⟨v1q1, rfl, l_v1q1, h_v1q1⟩ := q_v1q1.geti (lo := 0) (hi := 400) rfl
  refine t_calli (va_runV (As := []) (rest := []) ⟨hx, hb, hml, hown, hts⟩ (t_X12_see l dC dI tys κ B ws hw.2.2.2.2 a0 k_a0 v1q0 (by omega) (by omega) f_a0_X12_8 v1q1 (by omega) (by omega) f_a0_X12_1 s.heap.size) (cwV 0 hts (gUV tw_1264 tw_1266 ts_3_3 tw_13 tw_1267) rfl rfl rfl (by decide +kernel) ⟨(Nat.le_of_ble_eq_true rfl), (Nat.le_of_ble_eq_true rfl)⟩) ⟨cPre.blind, t_recv hw (ci := 12) k_a0 rfl rfl, cPre.use hw.2.1 hw.1 hw.2.2.1 hE⟩ rfl rfl hl.1 rfl (lv_room (Nat.le_of_ble_eq_true rfl)) dX12_value_1 ⟨(Nat.le_of_ble_eq_true rfl), (Nat.le_of_ble_eq_true rfl)⟩) hw hA (fun _ _ h => h.2.2.1) (fun v1 w_1 H locs hp hw => ?_)
  obtain ⟨l_v1, h_v1, _, hm, ⟨v1n, l_v1n, h_v1n, f_a0_X12_8, y_v1⟩⟩ := hp
  have hM := hM.trans hm (by decide) (by decide)
  have f_a0_X12_12 := hm.1 _ _ _ _ f_a0_X12_12 (by decide)
  have f_a0_X12_11 := hm.1 _ _ _ _ f_a0_X12_11 (by decide)
  have f_a0_X12_1 := hm.1 _ _ _ _ f_a0_X12_1 (by decide)
  have hPS := hPS.sm hm (by decide) (by decide)
  have hRT := hRT.sm hm (by decide) (by decide)
  refine lv_pop hx hb dX12_value_4 rfl ?_
  refine lv_aload_n hx hb dX12_value_5 rfl (lv_at hl 0 rfl) ?_
  refine t_getk (ci := 12) (C := RX12) (T := TX12) (N := 38) hx hb hts iX12 hown hw rfl 8 (by decide) (hts _ tw_1133) (fun _ h9 => h9) dX12_value_6 f_a0_X12_8 ?_
  refine lv_istore_n (lv' := [(1, .int v1n), (0, .ref a0)]) hx hb dX12_value_9 rfl hl (by decide) rfl (fun ls hl => ?_)
  refine lv_aload_n hx hb dX12_value_10 rfl (lv_at hl 1 rfl) ?_
  refine lv_aload_n hx hb dX12_value_11 rfl (lv_at hl 1 rfl) ?_
  refine t_getk (ci := 12) (C := RX12) (T := TX12) (N := 38) hx hb hts iX12 hown hw rfl 8 (by decide) (hts _ tw_1133) (fun _ h9 => h9) dX12_value_12 f_a0_X12_8 ?_
  refine t_calli (va_runV (As := [.int v1n]) (rest := []) ⟨hx, hb, hml, hown, hts⟩ (t_X12_isDigit l dC dI tys κ B w_1 hw.2.2.2.2 a0 k_a0 v1n (by omega) (by omega) v1q1 (by omega) (by omega) f_a0_X12_1 H.size) (cwV 1 hts (gUV tw_1312 tw_1314 ts_3_13 tw_13 tw_1315) rfl rfl rfl (by decide +kernel) ⟨(Nat.le_of_ble_eq_true rfl), (Nat.le_of_ble_eq_true rfl)⟩) ⟨cPre.blind, t_recv hw (ci := 12) k_a0 rfl rfl, cPre.use hw.2.1 hw.1 hw.2.2.1 hE⟩ rfl rfl hl.1 rfl (lv_room (Nat.le_of_ble_eq_true rfl)) dX12_value_15 ⟨(Nat.le_of_ble_eq_true rfl), (Nat.le_of_ble_eq_true rfl)⟩) hw hA (fun _ _ h => h.2.2.1) (fun v15 w_2 H locs hp hw => ?_)
  obtain ⟨l_v15, h_v15, _, hm, x_v15_0, x_v15_1⟩ := hp
  have hM := hM.trans hm (by decide) (by decide)
  have f_a0_X12_12 := hm.1 _ _ _ _ f_a0_X12_12 (by decide)
  have f_a0_X12_11 := hm.1 _ _ _ _ f_a0_X12_11 (by decide)
  have f_a0_X12_1 := hm.1 _ _ _ _ f_a0_X12_1 (by decide)
  have f_a0_X12_8 := hm.1 _ _ _ _ f_a0_X12_8 (by decide)
  have hPS := hPS.sm hm (by decide) (by decide)
  have hRT := hRT.sm hm (by decide) (by decide)
  refine lv_if_eq (tgt := 52) hx hb dX12_value_18 (by decide) (fun c_18 => ?_) (fun c_18 => ?_)
  · simp only [fa_lt, fa_le, fa_eq, li_0] at c_18
    refine lv_aload_n hx hb dX12_value_52 rfl (lv_at hl 1 rfl) ?_
    refine t_calli (va_runV (As := []) (rest := []) ⟨hx, hb, hml, hown, hts⟩ (t_X12_wordHere l dC dI tys κ B w_2 hw.2.2.2.2 a0 k_a0 H.size) (cwV 0 hts (gUV tw_1368 tw_1370 ts_4_10 tw_13 tw_1371) rfl rfl rfl (by decide +kernel) ⟨(Nat.le_of_ble_eq_true rfl), (Nat.le_of_ble_eq_true rfl)⟩) ⟨cPre.blind, t_recv hw (ci := 12) k_a0 rfl rfl, cPre.use hw.2.1 hw.1 hw.2.2.1 hE⟩ rfl rfl hl.1 rfl (lv_room (Nat.le_of_ble_eq_true rfl)) dX12_value_53 ⟨(Nat.le_of_ble_eq_true rfl), (Nat.le_of_ble_eq_true rfl)⟩) hw hA (fun _ _ h => h.2.2.1) (fun v53 w_3 H locs hp hw => ?_)
    obtain ⟨l_v53, h_v53, _, hm⟩ := hp
    have hM := hM.trans hm (by decide) (by decide)
    have f_a0_X12_12 := hm.1 _ _ _ _ f_a0_X12_12 (by decide)
    have f_a0_X12_11 := hm.1 _ _ _ _ f_a0_X12_11 (by decide)
    have f_a0_X12_1 := hm.1 _ _ _ _ f_a0_X12_1 (by decide)
    have hPS := hPS.sm hm (by decide) (by decide)
    have hRT := hRT.sm hm (by decide) (by decide)
    refine lv_istore_n (lv' := [(2, .int v53), (1, .int v1n), (0, .ref a0)]) hx hb dX12_value_56 rfl hl (by decide) rfl (fun ls hl => ?_)
    refine lv_iload_n hx hb dX12_value_57 rfl (lv_at hl 0 rfl) ?_
    refine lv_if_ge (tgt := 68) hx hb dX12_value_58 (by decide) (fun c_58 => ?_) (fun c_58 => ?_)
    · simp only [fa_lt, fa_le, fa_eq, li_0] at c_58
      refine lv_aload_n hx hb dX12_value_68 rfl (lv_at hl 2 rfl) ?_
      refine lv_iload_n hx hb dX12_value_69 rfl (lv_at hl 1 rfl) ?_
      refine t_calli (va_runV (As := [.int v1n]) (rest := []) ⟨hx, hb, hml, hown, hts⟩ (t_X12_makes l dC dI tys κ B w_3 hw.2.2.2.2 a0 k_a0 v1n (by omega) (by omega) f0 (by omega) (by omega) f_a0_X12_12 H.size) (cwV 1 hts (gUV tw_1360 tw_1362 ts_4_8 tw_13 tw_1363) rfl rfl rfl (by decide +kernel) ⟨(Nat.le_of_ble_eq_true rfl), (Nat.le_of_ble_eq_true rfl)⟩) ⟨cPre.blind, t_recv hw (ci := 12) k_a0 rfl rfl, cPre.use hw.2.1 hw.1 hw.2.2.1 hE⟩ rfl rfl hl.1 rfl (lv_room (Nat.le_of_ble_eq_true rfl)) dX12_value_70 ⟨(Nat.le_of_ble_eq_true rfl), (Nat.le_of_ble_eq_true rfl)⟩) hw hA (fun _ _ h => h.2.2.1) (fun v70 w_4 H locs hp hw => ?_)
      obtain ⟨l_v70, h_v70, _, hm, ⟨v70m, l_v70m, h_v70m, f_a0_X12_12, y_v70⟩⟩ := hp
      have hM := hM.trans hm (by decide) (by decide)
      have f_a0_X12_11 := hm.1 _ _ _ _ f_a0_X12_11 (by decide)
      have f_a0_X12_1 := hm.1 _ _ _ _ f_a0_X12_1 (by decide)
      have hPS := hPS.sm hm (by decide) (by decide)
      have hRT := hRT.sm hm (by decide) (by decide)
      refine lv_if_ne (tgt := 78) hx hb dX12_value_73 (by decide) (fun c_73 => ?_) (fun c_73 => ?_)
      · simp only [fa_lt, fa_le, fa_eq, li_0] at c_73
        refine lv_aload_n hx hb dX12_value_78 rfl (lv_at hl 2 rfl) ?_
        obtain ⟨u_v79q0, q_v79q0, f_a0_X12_8⟩ := t_peek (k := 8) hw.2.2.2.2 k_a0 rfl (by decide)
        obtain ⟨v79q0, rfl, l_v79q0, h_v79q0⟩ := q_v79q0.geti (lo := 0) (hi := 401) rfl
        refine t_callv (va_runV (As := []) (rest := []) ⟨hx, hb, hml, hown, hts⟩ (t_X12_passWord l dC dI tys κ B w_4 hw.2.2.2.2 a0 k_a0 v79q0 (by omega) (by omega) f_a0_X12_8 v1q1 (by omega) (by omega) f_a0_X12_1 H.size) (cwV 0 hts (gUV tw_1300 tw_1302 ts_3_10 tw_13 tw_1303) rfl rfl rfl (by decide +kernel) ⟨(Nat.le_of_ble_eq_true rfl), (Nat.le_of_ble_eq_true rfl)⟩) ⟨cPre.blind, t_recv hw (ci := 12) k_a0 rfl rfl, cPre.use hw.2.1 hw.1 hw.2.2.1 hE⟩ rfl rfl hl.1 rfl (lv_room (Nat.le_of_ble_eq_true rfl)) dX12_value_79 ⟨(Nat.le_of_ble_eq_true rfl), (Nat.le_of_ble_eq_true rfl)⟩) hw hA (fun _ h => h.1) (fun w_5 H locs hp hw => ?_)
        obtain ⟨_, hm, ⟨v79n, l_v79n, h_v79n, f_a0_X12_8, y_v79⟩⟩ := hp
        have hM := hM.trans hm (by decide) (by decide)
        have f_a0_X12_11 := hm.1 _ _ _ _ f_a0_X12_11 (by decide)
        have f_a0_X12_1 := hm.1 _ _ _ _ f_a0_X12_1 (by decide)
        have f_a0_X12_12 := hm.1 _ _ _ _ f_a0_X12_12 (by decide)
        have hPS := hPS.sm hm (by decide) (by decide)
        have hRT := hRT.sm hm (by decide) (by decide)
        refine lv_aload_n hx hb dX12_value_82 rfl (lv_at hl 2 rfl) ?_
        refine lv_iconst (v := 1) hx hb dX12_value_83 (by decide) ?_
        refine lv_iload_n hx hb dX12_value_84 rfl (lv_at hl 0 rfl) ?_
        refine t_callv (va_runV (As := [.int 1, .int v53]) (rest := []) ⟨hx, hb, hml, hown, hts⟩ (t_X12_puts l dC dI tys κ B w_5 hw.2.2.2.2 a0 k_a0 1 (by decide) (by decide) v53 (by omega) (by omega) f1 (by omega) (by omega) f_a0_X12_11 hPS (by omega) (by have := li_1; exact ⟨fun _ => by omega, fun _ => by omega, fun _ => by omega, fun _ _ _ => by omega⟩) H.size) (cwV 2 hts (gUV tw_1364 tw_1366 ts_4_9 tw_13 tw_1367) rfl rfl rfl (by decide +kernel) ⟨(Nat.le_of_ble_eq_true rfl), (Nat.le_of_ble_eq_true rfl)⟩) ⟨cPre.blind, t_recv hw (ci := 12) k_a0 rfl rfl, cPre.use hw.2.1 hw.1 hw.2.2.1 hE⟩ rfl rfl hl.1 rfl (lv_room (Nat.le_of_ble_eq_true rfl)) dX12_value_85 ⟨(Nat.le_of_ble_eq_true rfl), (Nat.le_of_ble_eq_true rfl)⟩) hw hA (fun _ h => h.1) (fun w_6 H locs hp hw => ?_)
        obtain ⟨_, hm, ⟨h9_v85, hPS, hh_v85⟩⟩ := hp
        have zc_1 := li_1
        have hM := hM.trans hm (by decide) (by decide)
        have f_a0_X12_11 := hm.1 _ _ _ _ f_a0_X12_11 (by decide)
        have f_a0_X12_1 := hm.1 _ _ _ _ f_a0_X12_1 (by decide)
        have f_a0_X12_12 := hm.1 _ _ _ _ f_a0_X12_12 (by decide)
        have f_a0_X12_8 := hm.1 _ _ _ _ f_a0_X12_8 (by decide)
        have hRT := hPS.rt
        refine lv_iconst (v := 1) hx hb dX12_value_88 (by decide) ?_
        rw [hQ]
        refine W.widen (k := 0) (n := 0) (Nat.le_refl _) (Nat.le_refl _) ?_
        exact W.zret (v := 1) hx hb hr rfl (fun t ht hW => ⟨⟨1, w_6, rfl, ⟨(by decide), (by decide), hw.2.2.2.2, hM, ⟨v70m, (by omega), (by omega), f_a0_X12_12, (by have := li_1; omega), ⟨fun hz => absurd hz (by decide), fun _ => hPS.to (by omega) (by omega)⟩⟩⟩, by rw [ht]; exact hw.2.1, va_K.moved hW.alike hw.1, hw.2.2.1⟩, hw.2.2.2.1.F ht⟩) hw.2.2.2.1.2.2 dX12_value_89
      · simp only [fa_lt, fa_le, fa_eq, li_0] at c_73
        refine lv_iconst (v := 0) hx hb dX12_value_76 (by decide) ?_
        rw [hQ]
        refine W.widen (k := 0) (n := 0) (Nat.le_refl _) (Nat.le_refl _) ?_
        exact W.zret (v := 0) hx hb hr rfl (fun t ht hW => ⟨⟨0, w_4, rfl, ⟨(by decide), (by decide), hw.2.2.2.2, hM, ⟨v70m, (by omega), (by omega), f_a0_X12_12, (by have := li_0; omega), ⟨fun _ => hRT, fun hz => absurd (by decide) hz⟩⟩⟩, by rw [ht]; exact hw.2.1, va_K.moved hW.alike hw.1, hw.2.2.1⟩, hw.2.2.2.1.F ht⟩) hw.2.2.2.1.2.2 dX12_value_77
    · simp only [fa_lt, fa_le, fa_eq, li_0] at c_58
      refine lv_aload_n hx hb dX12_value_61 rfl (lv_at hl 2 rfl) ?_
      refine lv_iconst (v := 0) hx hb dX12_value_62 (by decide) ?_
      refine lv_iload_n hx hb dX12_value_63 rfl (lv_at hl 1 rfl) ?_
      refine t_calli (va_runV (As := [.int 0, .int v1n]) (rest := []) ⟨hx, hb, hml, hown, hts⟩ (t_X12_fails l dC dI tys κ B w_3 hw.2.2.2.2 a0 k_a0 0 (by decide) (by decide) v1n (by omega) (by omega) H.size) (cwV 2 hts (gUV tw_1288 tw_1290 ts_3_7 tw_13 tw_1291) rfl rfl rfl (by decide +kernel) ⟨(Nat.le_of_ble_eq_true rfl), (Nat.le_of_ble_eq_true rfl)⟩) ⟨cPre.blind, t_recv hw (ci := 12) k_a0 rfl rfl, cPre.use hw.2.1 hw.1 hw.2.2.1 hE⟩ rfl rfl hl.1 rfl (lv_room (Nat.le_of_ble_eq_true rfl)) dX12_value_64 ⟨(Nat.le_of_ble_eq_true rfl), (Nat.le_of_ble_eq_true rfl)⟩) hw hA (fun _ _ h => h.2.2.1) (fun v64 w_7 H locs hp hw => ?_)
      obtain ⟨l_v64, h_v64, _, hm⟩ := hp
      have hM := hM.trans hm (by decide) (by decide)
      have f_a0_X12_12 := hm.1 _ _ _ _ f_a0_X12_12 (by decide)
      have f_a0_X12_11 := hm.1 _ _ _ _ f_a0_X12_11 (by decide)
      have f_a0_X12_1 := hm.1 _ _ _ _ f_a0_X12_1 (by decide)
      have hPS := hPS.sm hm (by decide) (by decide)
      have hRT := hRT.sm hm (by decide) (by decide)
      rw [hQ]
      refine W.widen (k := 0) (n := 0) (Nat.le_refl _) (Nat.le_refl _) ?_
      exact W.zret (v := v64) hx hb hr (nb_i (by omega) (by omega)) (fun t ht hW => ⟨⟨v64, w_7, rfl, ⟨(by omega), (by omega), hw.2.2.2.2, hM, ⟨f0, (by omega), (by omega), f_a0_X12_12, (by omega), ⟨fun _ => hRT, fun hz => absurd (by omega) hz⟩⟩⟩, by rw [ht]; exact hw.2.1, va_K.moved hW.alike hw.1, hw.2.2.1⟩, hw.2.2.2.1.F ht⟩) hw.2.2.2.1.2.2 dX12_value_67
  · simp only [fa_lt, fa_le, fa_eq, li_0] at c_18
    refine lv_aload_n hx hb dX12_value_21 rfl (lv_at hl 1 rfl) ?_
    refine lv_iconst (v := 0) hx hb dX12_value_22 (by decide) ?_
    refine lv_ldc (v := 99999) hx hb hown (hts _ tw_1359) dX12_value_23 ?_
    obtain ⟨u_v25q2, q_v25q2, f_a0_X12_10⟩ := t_peek (k := 10) hw.2.2.2.2 k_a0 rfl (by decide)
    obtain ⟨v25q2, rfl, l_v25q2, h_v25q2⟩ := q_v25q2.geti (lo := (-2147483648)) (hi := 2147483647) rfl
    refine t_calli (va_runV (As := [.int 0, .int 99999]) (rest := []) ⟨hx, hb, hml, hown, hts⟩ (t_X12_numberHere l dC dI tys κ B w_2 hw.2.2.2.2 a0 k_a0 0 (by decide) (by decide) 99999 (by decide) (by decide) v1n (by omega) (by omega) f_a0_X12_8 v1q1 (by omega) (by omega) f_a0_X12_1 v25q2 f_a0_X12_10 H.size) (cwV 2 hts (gUV tw_1308 tw_1310 ts_3_12 tw_13 tw_1311) rfl rfl rfl (by decide +kernel) ⟨(Nat.le_of_ble_eq_true rfl), (Nat.le_of_ble_eq_true rfl)⟩) ⟨cPre.blind, t_recv hw (ci := 12) k_a0 rfl rfl, cPre.use hw.2.1 hw.1 hw.2.2.1 hE⟩ rfl rfl hl.1 rfl (lv_room (Nat.le_of_ble_eq_true rfl)) dX12_value_25 ⟨(Nat.le_of_ble_eq_true rfl), (Nat.le_of_ble_eq_true rfl)⟩) hw hA (fun _ _ h => h.2.2.1) (fun v25 w_8 H locs hp hw => ?_)
    obtain ⟨l_v25, h_v25, _, hm, ⟨v25n, v25m, l_v25n, h_v25n, l_v25m, h_v25m, f_a0_X12_8, f_a0_X12_10, y_v25⟩⟩ := hp
    have zc_0 := li_0
    have zc_99999 := li_99999
    have hM := hM.trans hm (by decide) (by decide)
    have f_a0_X12_12 := hm.1 _ _ _ _ f_a0_X12_12 (by decide)
    have f_a0_X12_11 := hm.1 _ _ _ _ f_a0_X12_11 (by decide)
    have f_a0_X12_1 := hm.1 _ _ _ _ f_a0_X12_1 (by decide)
    have hPS := hPS.sm hm (by decide) (by decide)
    have hRT := hRT.sm hm (by decide) (by decide)
    refine lv_if_eq (tgt := 39) hx hb dX12_value_28 (by decide) (fun c_28 => ?_) (fun c_28 => ?_)
    · simp only [fa_lt, fa_le, fa_eq, li_0] at c_28
      refine lv_iconst (v := 0) hx hb dX12_value_39 (by decide) ?_
      rw [hQ]
      refine W.widen (k := 0) (n := 0) (Nat.le_refl _) (Nat.le_refl _) ?_
      exact W.zret (v := 0) hx hb hr rfl (fun t ht hW => ⟨⟨0, w_8, rfl, ⟨(by decide), (by decide), hw.2.2.2.2, hM, ⟨f0, (by omega), (by omega), f_a0_X12_12, (by have := li_0; omega), ⟨fun _ => hRT, fun hz => absurd (by decide) hz⟩⟩⟩, by rw [ht]; exact hw.2.1, va_K.moved hW.alike hw.1, hw.2.2.1⟩, hw.2.2.2.1.F ht⟩) hw.2.2.2.1.2.2 dX12_value_40
    · simp only [fa_lt, fa_le, fa_eq, li_0] at c_28
      refine lv_aload_n hx hb dX12_value_31 rfl (lv_at hl 1 rfl) ?_
      refine lv_iload_n hx hb dX12_value_32 rfl (lv_at hl 0 rfl) ?_
      refine t_calli (va_runV (As := [.int v1n]) (rest := []) ⟨hx, hb, hml, hown, hts⟩ (t_X12_makes l dC dI tys κ B w_8 hw.2.2.2.2 a0 k_a0 v1n (by omega) (by omega) f0 (by omega) (by omega) f_a0_X12_12 H.size) (cwV 1 hts (gUV tw_1360 tw_1362 ts_4_8 tw_13 tw_1363) rfl rfl rfl (by decide +kernel) ⟨(Nat.le_of_ble_eq_true rfl), (Nat.le_of_ble_eq_true rfl)⟩) ⟨cPre.blind, t_recv hw (ci := 12) k_a0 rfl rfl, cPre.use hw.2.1 hw.1 hw.2.2.1 hE⟩ rfl rfl hl.1 rfl (lv_room (Nat.le_of_ble_eq_true rfl)) dX12_value_33 ⟨(Nat.le_of_ble_eq_true rfl), (Nat.le_of_ble_eq_true rfl)⟩) hw hA (fun _ _ h => h.2.2.1) (fun v33 w_9 H locs hp hw => ?_)
      obtain ⟨l_v33, h_v33, _, hm, ⟨v33m, l_v33m, h_v33m, f_a0_X12_12, y_v33⟩⟩ := hp
      have hM := hM.trans hm (by decide) (by decide)
      have f_a0_X12_11 := hm.1 _ _ _ _ f_a0_X12_11 (by decide)
      have f_a0_X12_1 := hm.1 _ _ _ _ f_a0_X12_1 (by decide)
      have f_a0_X12_8 := hm.1 _ _ _ _ f_a0_X12_8 (by decide)
      have f_a0_X12_10 := hm.1 _ _ _ _ f_a0_X12_10 (by decide)
      have hPS := hPS.sm hm (by decide) (by decide)
      have hRT := hRT.sm hm (by decide) (by decide)
      refine lv_if_ne (tgt := 41) hx hb dX12_value_36 (by decide) (fun c_36 => ?_) (fun c_36 => ?_)
      · simp only [fa_lt, fa_le, fa_eq, li_0] at c_36
        refine lv_aload_n hx hb dX12_value_41 rfl (lv_at hl 1 rfl) ?_
        refine lv_iconst (v := 0) hx hb dX12_value_42 (by decide) ?_
        refine lv_aload_n hx hb dX12_value_43 rfl (lv_at hl 1 rfl) ?_
        refine t_getk (ci := 12) (C := RX12) (T := TX12) (N := 38) hx hb hts iX12 hown hw rfl 10 (by decide) (hts _ tw_1135) (fun _ h9 => h9) dX12_value_44 f_a0_X12_10 ?_
        refine t_callv (va_runV (As := [.int 0, .int v25m]) (rest := []) ⟨hx, hb, hml, hown, hts⟩ (t_X12_puts l dC dI tys κ B w_9 hw.2.2.2.2 a0 k_a0 0 (by decide) (by decide) v25m (by omega) (by omega) f1 (by omega) (by omega) f_a0_X12_11 hPS (by omega) (by have := li_0; exact ⟨fun _ => by omega, fun _ => by omega, fun _ => by omega, fun _ _ _ => by omega⟩) H.size) (cwV 2 hts (gUV tw_1364 tw_1366 ts_4_9 tw_13 tw_1367) rfl rfl rfl (by decide +kernel) ⟨(Nat.le_of_ble_eq_true rfl), (Nat.le_of_ble_eq_true rfl)⟩) ⟨cPre.blind, t_recv hw (ci := 12) k_a0 rfl rfl, cPre.use hw.2.1 hw.1 hw.2.2.1 hE⟩ rfl rfl hl.1 rfl (lv_room (Nat.le_of_ble_eq_true rfl)) dX12_value_47 ⟨(Nat.le_of_ble_eq_true rfl), (Nat.le_of_ble_eq_true rfl)⟩) hw hA (fun _ h => h.1) (fun w_10 H locs hp hw => ?_)
        obtain ⟨_, hm, ⟨h9_v47, hPS, hh_v47⟩⟩ := hp
        have zc_0 := li_0
        have hM := hM.trans hm (by decide) (by decide)
        have f_a0_X12_11 := hm.1 _ _ _ _ f_a0_X12_11 (by decide)
        have f_a0_X12_1 := hm.1 _ _ _ _ f_a0_X12_1 (by decide)
        have f_a0_X12_8 := hm.1 _ _ _ _ f_a0_X12_8 (by decide)
        have f_a0_X12_10 := hm.1 _ _ _ _ f_a0_X12_10 (by decide)
        have f_a0_X12_12 := hm.1 _ _ _ _ f_a0_X12_12 (by decide)
        have hRT := hPS.rt
        refine lv_iconst (v := 1) hx hb dX12_value_50 (by decide) ?_
        rw [hQ]
        refine W.widen (k := 0) (n := 0) (Nat.le_refl _) (Nat.le_refl _) ?_
        exact W.zret (v := 1) hx hb hr rfl (fun t ht hW => ⟨⟨1, w_10, rfl, ⟨(by decide), (by decide), hw.2.2.2.2, hM, ⟨v33m, (by omega), (by omega), f_a0_X12_12, (by have := li_1; omega), ⟨fun hz => absurd hz (by decide), fun _ => hPS.to (by omega) (by omega)⟩⟩⟩, by rw [ht]; exact hw.2.1, va_K.moved hW.alike hw.1, hw.2.2.1⟩, hw.2.2.2.1.F ht⟩) hw.2.2.2.1.2.2 dX12_value_51
      · simp only [fa_lt, fa_le, fa_eq, li_0] at c_36
        refine lv_iconst (v := 0) hx hb dX12_value_39 (by decide) ?_
        rw [hQ]
        refine W.widen (k := 0) (n := 0) (Nat.le_refl _) (Nat.le_refl _) ?_
        exact W.zret (v := 0) hx hb hr rfl (fun t ht hW => ⟨⟨0, w_9, rfl, ⟨(by decide), (by decide), hw.2.2.2.2, hM, ⟨v33m, (by omega), (by omega), f_a0_X12_12, (by have := li_0; omega), ⟨fun _ => hRT, fun hz => absurd (by decide) hz⟩⟩⟩, by rw [ht]; exact hw.2.1, va_K.moved hW.alike hw.1, hw.2.2.1⟩, hw.2.2.2.1.F ht⟩) hw.2.2.2.1.2.2 dX12_value_40
set_option maxHeartbeats 4000000 in
set_option maxRecDepth 100000 in
theorem t_X12_term (l : Launch) (dC : Nat → ClassId) (dI : Nat → Nat → Nat) (tys : List (ClassId × FieldType)) (κ : tK) (B : Nat) (ws : va_W) (hT : Ty κ tys B ws) (a0 : Nat) (k_a0 : κ a0 = some 12) (f0 : Int32) (l_f0 : 0 ≤ f0.toInt) (h_f0 : f0.toInt ≤ 60) (f_a0_X12_12 : fld ws a0 12 12 (.int f0)) (f1 : Int32) (l_f1 : 0 ≤ f1.toInt) (h_f1 : f1.toInt ≤ 5) (f_a0_X12_11 : fld ws a0 12 11 (.int f1)) {pb pe b h φ nc : Int} (hPS : PS κ ws a0 f1.toInt.toNat pb pe b h φ nc) (hφ : φ ≤ 2 * f0.toInt + 250) (h0 : 0 ≤ h) (hh : h ≤ f0.toInt) (sz : Nat) : Met l yX12_term (ws_u yX12_term cX12_term 2 (some .boolean)) ({ frames := 4, cells := 0, slots := 0, locals := 88 }) (va_Pc [.ref a0] (cPre (dC, dI) tys ws sz)) (va_Qi (fun (r : Int32) (w : va_W) => 0 ≤ r.toInt ∧ r.toInt ≤ 1 ∧ Ty κ tys B w ∧ Sm [(12, 8), (12, 9), (12, 10), (12, 12)] [55, 56] κ ws w ∧ (∃ (xm : Int32), 0 ≤ xm.toInt ∧ xm.toInt ≤ 60 ∧ fld w a0 12 12 (.int xm) ∧ (r.toInt = 0 ∨ f0.toInt + 1 ≤ xm.toInt) ∧ Alt r (RT κ w a0) (PS κ w a0 f1.toInt.toNat pb pe b (h + 1) (φ + 2 * (xm.toInt - f0.toInt) - 1) nc))) (fun w t => cPost (dC, dI) tys w (va_A ws sz) t) (va_A ws sz)) 0 0 (va_A ws sz) := by
  refine Met.ofW (cc := cX12_term) (maxL := 2) (ret := (some .boolean)) (by decide) rfl ?_
  intro p e s m args below meth c s₁ B0 hml hv
  obtain ⟨rfl, hsz, hP, hK, hD0, hE⟩ := hv
  have hx := B0.exec
  have hb := B0.bytes
  have hr := B0.returns
  have hts0 := atoms_spec (ws := ws_u yX12_term cX12_term 2 (some .boolean)) B0.pre
  have hts : ∀ w ∈ gT, w.before _ s = true := fun w h => hts0 w (List.mem_cons_of_mem _ h)
  have hown : s.vm.findClass RX12 = some m.cls := findClass_of_methodNamed B0.named
  have hlocks := B0.notSynchronized
  subst hsz
  have hD := hD0.self (sz := s.heap.size)
  generalize hAe : va_A ws s.heap.size = A at hD ⊢
  have hA : ∀ q : Nat, s.heap.size ≤ q → A q := fun q h => by rw [← hAe]; exact Or.inr h
  have hw : tW (dC, dI) tys κ B A s ws s.heap [] := ⟨hK, hP, hD, va_S.rf, hT⟩
  have hM : Sm [(12, 8), (12, 9), (12, 10), (12, 12)] [55, 56] κ ws ws := Sm.rf
  clear hP hK hD hD0 hts0
  have hl := lv_entry ([.ref a0]) (n := 2) (Nat.le_of_ble_eq_true rfl)
  rw [lg_entry_eq]
  generalize (lg_sl ([.ref a0]) ++ List.replicate (2 - (lg_sl ([.ref a0])).length) Slot.unset).toArray = ls at hl ⊢
  have hl : lv_has ls 2 [(0, .ref a0)] := hl
  refine t_start (fun QQ hQ => ?_)
  have hRT := hPS.rt
  refine lv_aload_n hx hb dX12_term_0 rfl (lv_at hl 0 rfl) ?_
  refine t_calli (va_runV (As := []) (rest := []) ⟨hx, hb, hml, hown, hts⟩ (t_X12_value l dC dI tys κ B ws hw.2.2.2.2 a0 k_a0 f0 (by omega) (by omega) f_a0_X12_12 f1 (by omega) (by omega) f_a0_X12_11 hPS (by omega) (by omega) (by omega) s.heap.size) (cwV 0 hts (gUV tw_1355 tw_1357 ts_4_7 tw_13 tw_1358) rfl rfl rfl (by decide +kernel) ⟨(Nat.le_of_ble_eq_true rfl), (Nat.le_of_ble_eq_true rfl)⟩) ⟨cPre.blind, t_recv hw (ci := 12) k_a0 rfl rfl, cPre.use hw.2.1 hw.1 hw.2.2.1 hE⟩ rfl rfl hl.1 rfl (lv_room (Nat.le_of_ble_eq_true rfl)) dX12_term_1 ⟨(Nat.le_of_ble_eq_true rfl), (Nat.le_of_ble_eq_true rfl)⟩) hw hA (fun _ _ h => h.2.2.1) (fun v1 w_1 H locs hp hw => ?_)
  obtain ⟨l_v1, h_v1, _, hm, ⟨v1m, l_v1m, h_v1m, f_a0_X12_12, y_v1, g_v1⟩⟩ := hp
  have hM := hM.trans hm (by decide) (by decide)
  have f_a0_X12_11 := hm.1 _ _ _ _ f_a0_X12_11 (by decide)
  have J9 : ∀ (n : Nat) (H : Heap) (locs : List Loc) (ls : Array Slot), (∃ (w9 : va_W) (p9_m_a0_X12_12 : Int32), tW (dC, dI) tys κ B A s w9 H locs ∧ Sm [(12, 8), (12, 9), (12, 10), (12, 12)] [55, 56] κ ws w9 ∧ 0 ≤ p9_m_a0_X12_12.toInt ∧ p9_m_a0_X12_12.toInt ≤ 60 ∧ fld w9 a0 12 11 (.int f1) ∧ fld w9 a0 12 12 (.int p9_m_a0_X12_12) ∧ f0.toInt + 1 ≤ p9_m_a0_X12_12.toInt ∧ PS κ w9 a0 f1.toInt.toNat pb pe b (h + 1) (φ + 2 * (p9_m_a0_X12_12.toInt - f0.toInt) - 1) nc ∧ lv_has ls 2 [(0, .ref a0)] ∧ (60 - p9_m_a0_X12_12.toInt).toNat = n) → W p l e (headSpec (ws_u yX12_term cX12_term 2 (some .boolean)) ({ frames := 4, cells := 0, slots := 0, locals := 88 })).room s m ([.ref a0] : List Value).toArray below meth c H locs 0 0 QQ (F0 m 9 ls []) := by
    refine loopT _ ?_
    intro n_9 H locs ls hI ih_9
    obtain ⟨w9, p9_m_a0_X12_12, hw, hM, l_p9_m_a0_X12_12, h_p9_m_a0_X12_12, f_a0_X12_11, f_a0_X12_12, li_9_0, hPS, hl, hn_9⟩ := hI
    have hRT := hPS.rt
    refine lv_aload_n hx hb dX12_term_9 rfl (lv_at hl 0 rfl) ?_
    obtain ⟨u_v10q0, q_v10q0, f_a0_X12_8⟩ := t_peek (k := 8) hw.2.2.2.2 k_a0 rfl (by decide)
    obtain ⟨v10q0, rfl, l_v10q0, h_v10q0⟩ := q_v10q0.geti (lo := 0) (hi := 401) rfl
    obtain ⟨u_v10q1, q_v10q1, f_a0_X12_1⟩ := t_peek (k := 1) hw.2.2.2.2 k_a0 rfl (by decide)
    obtain ⟨v10q1, rfl, l_v10q1, h_v10q1⟩ := q_v10q1.geti (lo := 0) (hi := 400) rfl
    refine t_calli (va_runV (As := []) (rest := []) ⟨hx, hb, hml, hown, hts⟩ (t_X12_see l dC dI tys κ B w9 hw.2.2.2.2 a0 k_a0 v10q0 (by omega) (by omega) f_a0_X12_8 v10q1 (by omega) (by omega) f_a0_X12_1 H.size) (cwV 0 hts (gUV tw_1264 tw_1266 ts_3_3 tw_13 tw_1267) rfl rfl rfl (by decide +kernel) ⟨(Nat.le_of_ble_eq_true rfl), (Nat.le_of_ble_eq_true rfl)⟩) ⟨cPre.blind, t_recv hw (ci := 12) k_a0 rfl rfl, cPre.use hw.2.1 hw.1 hw.2.2.1 hE⟩ rfl rfl hl.1 rfl (lv_room (Nat.le_of_ble_eq_true rfl)) dX12_term_10 ⟨(Nat.le_of_ble_eq_true rfl), (Nat.le_of_ble_eq_true rfl)⟩) hw hA (fun _ _ h => h.2.2.1) (fun v10 w_2 H locs hp hw => ?_)
    obtain ⟨l_v10, h_v10, _, hm, ⟨v10n, l_v10n, h_v10n, f_a0_X12_8, y_v10⟩⟩ := hp
    have hM := hM.trans hm (by decide) (by decide)
    have f_a0_X12_11 := hm.1 _ _ _ _ f_a0_X12_11 (by decide)
    have f_a0_X12_12 := hm.1 _ _ _ _ f_a0_X12_12 (by decide)
    have f_a0_X12_1 := hm.1 _ _ _ _ f_a0_X12_1 (by decide)
    have hPS := hPS.sm hm (by decide) (by decide)
    have hRT := hRT.sm hm (by decide) (by decide)
    refine lv_bipush (v := 42) hx hb dX12_term_13 (by decide) ?_
    have J36 : ∀ (H : Heap) (locs : List Loc) (ls : Array Slot) (w36 : va_W) (p36_m_a0_X12_8 : Int32), tW (dC, dI) tys κ B A s w36 H locs → Sm [(12, 8), (12, 9), (12, 10), (12, 12)] [55, 56] κ ws w36 → 0 ≤ p36_m_a0_X12_8.toInt → p36_m_a0_X12_8.toInt ≤ 399 → fld w36 a0 12 1 (.int v10q1) → fld w36 a0 12 11 (.int f1) → fld w36 a0 12 12 (.int p9_m_a0_X12_12) → fld w36 a0 12 8 (.int p36_m_a0_X12_8) → PS κ w36 a0 f1.toInt.toNat pb pe b (h + 1) (φ + 2 * (p9_m_a0_X12_12.toInt - f0.toInt) - 1) nc → lv_has ls 2 [(0, .ref a0)] → W p l e (headSpec (ws_u yX12_term cX12_term 2 (some .boolean)) ({ frames := 4, cells := 0, slots := 0, locals := 88 })).room s m ([.ref a0] : List Value).toArray below meth c H locs 0 0 QQ (F0 m 36 ls []) := by
      intro H locs ls w36 p36_m_a0_X12_8 hw hM l_p36_m_a0_X12_8 h_p36_m_a0_X12_8 f_a0_X12_1 f_a0_X12_11 f_a0_X12_12 f_a0_X12_8 hPS hl
      have hRT := hPS.rt
      refine lv_aload_n hx hb dX12_term_36 rfl (lv_at hl 0 rfl) ?_
      refine t_getr (k1 := 54) (ci := 12) (C := RX12) (T := TX12) (N := 38) hx hb hts iX12 hown hw k_a0 rfl rfl rfl 0 (by decide) (hts _ tw_1125) (fun _ h9 => h9) dX12_term_37 rfl (fun v37 k_v37 f_a0_X12_0 => ?_)
      refine lv_aload_n hx hb dX12_term_40 rfl (lv_at hl 0 rfl) ?_
      refine t_getk (ci := 12) (C := RX12) (T := TX12) (N := 38) hx hb hts iX12 hown hw rfl 8 (by decide) (hts _ tw_1133) (fun _ h9 => h9) dX12_term_41 f_a0_X12_8 ?_
      refine t_bald hx hb hw k_v37 rfl rfl (by omega) (show p36_m_a0_X12_8.toInt < 400 by omega) dX12_term_44 (fun v44 r_v44 s_v44 q_v44 => ?_)
      have l_v44 := i32_lo v44
      have h_v44 := i32_hi v44
      refine lv_bipush (v := 42) hx hb dX12_term_45 (by decide) ?_
      have J74 : ∀ (H : Heap) (locs : List Loc) (ls : Array Slot) (w74 : va_W) (p74_s0 : Int32), tW (dC, dI) tys κ B A s w74 H locs → Sm [(12, 8), (12, 9), (12, 10), (12, 12)] [55, 56] κ ws w74 → 4 ≤ p74_s0.toInt → p74_s0.toInt ≤ 14 → fld w74 a0 12 0 (.ref v37) → fld w74 a0 12 1 (.int v10q1) → fld w74 a0 12 11 (.int f1) → fld w74 a0 12 12 (.int p9_m_a0_X12_12) → fld w74 a0 12 8 (.int p36_m_a0_X12_8) → (p74_s0.toInt = 4 ∨ p74_s0.toInt = 5 ∨ p74_s0.toInt = 14) → PS κ w74 a0 f1.toInt.toNat pb pe b (h + 1) (φ + 2 * (p9_m_a0_X12_12.toInt - f0.toInt) - 1) nc → lv_has ls 2 [(0, .ref a0)] → W p l e (headSpec (ws_u yX12_term cX12_term 2 (some .boolean)) ({ frames := 4, cells := 0, slots := 0, locals := 88 })).room s m ([.ref a0] : List Value).toArray below meth c H locs 0 0 QQ (F0 m 74 ls [.int p74_s0]) := by
        intro H locs ls w74 p74_s0 hw hM l_p74_s0 h_p74_s0 f_a0_X12_0 f_a0_X12_1 f_a0_X12_11 f_a0_X12_12 f_a0_X12_8 li_74_0 hPS hl
        have hRT := hPS.rt
        refine lv_istore_n (lv' := [(1, .int p74_s0), (0, .ref a0)]) hx hb dX12_term_74 rfl hl (by decide) rfl (fun ls hl => ?_)
        refine lv_aload_n hx hb dX12_term_75 rfl (lv_at hl 1 rfl) ?_
        refine lv_dup hx hb dX12_term_76 rfl ?_
        refine t_getk (ci := 12) (C := RX12) (T := TX12) (N := 38) hx hb hts iX12 hown hw rfl 8 (by decide) (hts _ tw_1133) (fun _ h9 => h9) dX12_term_77 f_a0_X12_8 ?_
        refine lv_iconst (v := 1) hx hb dX12_term_80 (by decide) ?_
        refine lv_iadd hx hb dX12_term_81 ?_
        refine lv_topi (fun v81 e_v81 => ?_)
        have e_v81 : v81.toInt = p36_m_a0_X12_8.toInt + 1 := ad_i e_v81 rfl li_1 (by omega) (by omega)
        refine t_put (ci := 12) (C := RX12) (T := TX12) (N := 38) (v := .int v81) hx hb hts iX12 tyX12 tyX12_ok nmX12 hown hw k_a0 rfl rfl rfl 8 (by decide) (hts _ tw_1133) (fun _ h9 => h9) rfl (tyX12_ok 8 (by decide)) rfl rfl (okV.int rfl (by omega) (by omega)) dX12_term_82 (fun w_3 H locs hw u => ?_)
        have hM := hM.up1 u (by decide)
        have f_a0_X12_0 := u.1 _ _ _ _ f_a0_X12_0 (Or.inr (Or.inr (by decide)))
        have f_a0_X12_1 := u.1 _ _ _ _ f_a0_X12_1 (Or.inr (Or.inr (by decide)))
        have f_a0_X12_11 := u.1 _ _ _ _ f_a0_X12_11 (Or.inr (Or.inr (by decide)))
        have f_a0_X12_12 := u.1 _ _ _ _ f_a0_X12_12 (Or.inr (Or.inr (by decide)))
        have f_a0_X12_8 := u.2.2
        have hPS := hPS.sm (Sm.of1 u) (by decide) (by decide)
        have hRT := hRT.sm (Sm.of1 u) (by decide) (by decide)
        refine lv_aload_n hx hb dX12_term_85 rfl (lv_at hl 1 rfl) ?_
        refine t_calli (va_runV (As := []) (rest := []) ⟨hx, hb, hml, hown, hts⟩ (t_X12_value l dC dI tys κ B w_3 hw.2.2.2.2 a0 k_a0 p9_m_a0_X12_12 (by omega) (by omega) f_a0_X12_12 f1 (by omega) (by omega) f_a0_X12_11 hPS (by omega) (by omega) (by omega) H.size) (cwV 0 hts (gUV tw_1355 tw_1357 ts_4_7 tw_13 tw_1358) rfl rfl rfl (by decide +kernel) ⟨(Nat.le_of_ble_eq_true rfl), (Nat.le_of_ble_eq_true rfl)⟩) ⟨cPre.blind, t_recv hw (ci := 12) k_a0 rfl rfl, cPre.use hw.2.1 hw.1 hw.2.2.1 hE⟩ rfl rfl hl.1 rfl (lv_room (Nat.le_of_ble_eq_true rfl)) dX12_term_86 ⟨(Nat.le_of_ble_eq_true rfl), (Nat.le_of_ble_eq_true rfl)⟩) hw hA (fun _ _ h => h.2.2.1) (fun v86 w_4 H locs hp hw => ?_)
        obtain ⟨l_v86, h_v86, _, hm, ⟨v86m, l_v86m, h_v86m, f_a0_X12_12, y_v86, g_v86⟩⟩ := hp
        have hM := hM.trans hm (by decide) (by decide)
        have f_a0_X12_0 := hm.1 _ _ _ _ f_a0_X12_0 (by decide)
        have f_a0_X12_1 := hm.1 _ _ _ _ f_a0_X12_1 (by decide)
        have f_a0_X12_11 := hm.1 _ _ _ _ f_a0_X12_11 (by decide)
        refine lv_if_ne (tgt := 94) hx hb dX12_term_89 (by decide) (fun c_89 => ?_) (fun c_89 => ?_)
        · simp only [fa_lt, fa_le, fa_eq, li_0] at c_89
          have hPS := g_v86.2 c_89
          have hRT := hPS.rt
          refine lv_aload_n hx hb dX12_term_94 rfl (lv_at hl 1 rfl) ?_
          refine lv_iload_n hx hb dX12_term_95 rfl (lv_at hl 0 rfl) ?_
          refine lv_iconst (v := 0) hx hb dX12_term_96 (by decide) ?_
          refine t_callv (va_runV (As := [.int p74_s0, .int 0]) (rest := []) ⟨hx, hb, hml, hown, hts⟩ (t_X12_puts l dC dI tys κ B w_4 hw.2.2.2.2 a0 k_a0 p74_s0 (by omega) (by omega) 0 (by decide) (by decide) f1 (by omega) (by omega) f_a0_X12_11 hPS (by omega) (by have := li_0; exact ⟨fun _ => by omega, fun _ => by omega, fun _ => by omega, fun _ _ _ => by omega⟩) H.size) (cwV 2 hts (gUV tw_1364 tw_1366 ts_4_9 tw_13 tw_1367) rfl rfl rfl (by decide +kernel) ⟨(Nat.le_of_ble_eq_true rfl), (Nat.le_of_ble_eq_true rfl)⟩) ⟨cPre.blind, t_recv hw (ci := 12) k_a0 rfl rfl, cPre.use hw.2.1 hw.1 hw.2.2.1 hE⟩ rfl rfl hl.1 rfl (lv_room (Nat.le_of_ble_eq_true rfl)) dX12_term_97 ⟨(Nat.le_of_ble_eq_true rfl), (Nat.le_of_ble_eq_true rfl)⟩) hw hA (fun _ h => h.1) (fun w_5 H locs hp hw => ?_)
          obtain ⟨_, hm, ⟨h9_v97, hPS, hh_v97⟩⟩ := hp
          have zc_0 := li_0
          have hM := hM.trans hm (by decide) (by decide)
          have f_a0_X12_0 := hm.1 _ _ _ _ f_a0_X12_0 (by decide)
          have f_a0_X12_1 := hm.1 _ _ _ _ f_a0_X12_1 (by decide)
          have f_a0_X12_11 := hm.1 _ _ _ _ f_a0_X12_11 (by decide)
          have f_a0_X12_12 := hm.1 _ _ _ _ f_a0_X12_12 (by decide)
          have hRT := hPS.rt
          refine lv_goto (tgt := 9) hx hb dX12_term_100 (by decide) ?_
          exact ih_9 _ _ _ _ (by omega) ⟨w_5, v86m, hw, hM, (by omega), (by omega), f_a0_X12_11, f_a0_X12_12, (by omega), (hPS.to (by omega) (by omega)), (lv_sub hl [1] rfl), rfl⟩
        · simp only [fa_lt, fa_le, fa_eq, li_0] at c_89
          have hRT := g_v86.1 c_89
          refine lv_iconst (v := 0) hx hb dX12_term_92 (by decide) ?_
          rw [hQ]
          refine W.widen (k := 0) (n := 0) (Nat.le_refl _) (Nat.le_refl _) ?_
          exact W.zret (v := 0) hx hb hr rfl (fun t ht hW => ⟨⟨0, w_4, rfl, ⟨(by decide), (by decide), hw.2.2.2.2, hM, ⟨v86m, (by omega), (by omega), f_a0_X12_12, (by have := li_0; omega), ⟨fun _ => hRT, fun hz => absurd (by decide) hz⟩⟩⟩, by rw [ht]; exact hw.2.1, va_K.moved hW.alike hw.1, hw.2.2.1⟩, hw.2.2.2.1.F ht⟩) hw.2.2.2.1.2.2 dX12_term_93
      refine lv_icmp_ne (tgt := 54) hx hb dX12_term_47 (by decide) (fun c_47 => ?_) (fun c_47 => ?_)
      · simp only [fa_lt, fa_le, fa_eq, li_42] at c_47
        refine lv_aload_n hx hb dX12_term_54 rfl (lv_at hl 0 rfl) ?_
        refine t_getk (ci := 12) (C := RX12) (T := TX12) (N := 38) hx hb hts iX12 hown hw rfl 0 (by decide) (hts _ tw_1125) (fun _ h9 => h9) dX12_term_55 f_a0_X12_0 ?_
        refine lv_aload_n hx hb dX12_term_58 rfl (lv_at hl 0 rfl) ?_
        refine t_getk (ci := 12) (C := RX12) (T := TX12) (N := 38) hx hb hts iX12 hown hw rfl 8 (by decide) (hts _ tw_1133) (fun _ h9 => h9) dX12_term_59 f_a0_X12_8 ?_
        refine t_bald hx hb hw k_v37 rfl rfl (by omega) (show p36_m_a0_X12_8.toInt < 400 by omega) dX12_term_62 (fun v62 r_v62 s_v62 q_v62 => ?_)
        have l_v62 := i32_lo v62
        have h_v62 := i32_hi v62
        refine lv_bipush (v := 47) hx hb dX12_term_63 (by decide) ?_
        refine lv_icmp_ne (tgt := 72) hx hb dX12_term_65 (by decide) (fun c_65 => ?_) (fun c_65 => ?_)
        · simp only [fa_lt, fa_le, fa_eq, li_47] at c_65
          refine lv_bipush (v := 14) hx hb dX12_term_72 (by decide) ?_
          exact J74 _ _ _ w36 14 hw hM (by decide) (by decide) f_a0_X12_0 f_a0_X12_1 f_a0_X12_11 f_a0_X12_12 f_a0_X12_8 (by have := li_14; omega) hPS (lv_sub hl [0] rfl)
        · simp only [fa_lt, fa_le, fa_eq, li_47] at c_65
          refine lv_iconst (v := 5) hx hb dX12_term_68 (by decide) ?_
          refine lv_goto (tgt := 74) hx hb dX12_term_69 (by decide) ?_
          exact J74 _ _ _ w36 5 hw hM (by decide) (by decide) f_a0_X12_0 f_a0_X12_1 f_a0_X12_11 f_a0_X12_12 f_a0_X12_8 (by have := li_5; omega) hPS (lv_sub hl [0] rfl)
      · simp only [fa_lt, fa_le, fa_eq, li_42] at c_47
        refine lv_iconst (v := 4) hx hb dX12_term_50 (by decide) ?_
        refine lv_goto (tgt := 74) hx hb dX12_term_51 (by decide) ?_
        exact J74 _ _ _ w36 4 hw hM (by decide) (by decide) f_a0_X12_0 f_a0_X12_1 f_a0_X12_11 f_a0_X12_12 f_a0_X12_8 (by have := li_4; omega) hPS (lv_sub hl [0] rfl)
    refine lv_icmp_eq (tgt := 36) hx hb dX12_term_15 (by decide) (fun c_15 => ?_) (fun c_15 => ?_)
    · simp only [fa_lt, fa_le, fa_eq, li_42] at c_15
      exact J36 _ _ _ w_2 v10n hw hM (by omega) (by omega) f_a0_X12_1 f_a0_X12_11 f_a0_X12_12 f_a0_X12_8 hPS (lv_sub hl [0] rfl)
    · simp only [fa_lt, fa_le, fa_eq, li_42] at c_15
      refine lv_aload_n hx hb dX12_term_18 rfl (lv_at hl 0 rfl) ?_
      refine t_calli (va_runV (As := []) (rest := []) ⟨hx, hb, hml, hown, hts⟩ (t_X12_see l dC dI tys κ B w_2 hw.2.2.2.2 a0 k_a0 v10n (by omega) (by omega) f_a0_X12_8 v10q1 (by omega) (by omega) f_a0_X12_1 H.size) (cwV 0 hts (gUV tw_1264 tw_1266 ts_3_3 tw_13 tw_1267) rfl rfl rfl (by decide +kernel) ⟨(Nat.le_of_ble_eq_true rfl), (Nat.le_of_ble_eq_true rfl)⟩) ⟨cPre.blind, t_recv hw (ci := 12) k_a0 rfl rfl, cPre.use hw.2.1 hw.1 hw.2.2.1 hE⟩ rfl rfl hl.1 rfl (lv_room (Nat.le_of_ble_eq_true rfl)) dX12_term_19 ⟨(Nat.le_of_ble_eq_true rfl), (Nat.le_of_ble_eq_true rfl)⟩) hw hA (fun _ _ h => h.2.2.1) (fun v19 w_6 H locs hp hw => ?_)
      obtain ⟨l_v19, h_v19, _, hm, ⟨v19n, l_v19n, h_v19n, f_a0_X12_8, y_v19⟩⟩ := hp
      have hM := hM.trans hm (by decide) (by decide)
      have f_a0_X12_11 := hm.1 _ _ _ _ f_a0_X12_11 (by decide)
      have f_a0_X12_12 := hm.1 _ _ _ _ f_a0_X12_12 (by decide)
      have f_a0_X12_1 := hm.1 _ _ _ _ f_a0_X12_1 (by decide)
      have hPS := hPS.sm hm (by decide) (by decide)
      have hRT := hRT.sm hm (by decide) (by decide)
      refine lv_bipush (v := 47) hx hb dX12_term_22 (by decide) ?_
      refine lv_icmp_eq (tgt := 36) hx hb dX12_term_24 (by decide) (fun c_24 => ?_) (fun c_24 => ?_)
      · simp only [fa_lt, fa_le, fa_eq, li_47] at c_24
        exact J36 _ _ _ w_6 v19n hw hM (by omega) (by omega) f_a0_X12_1 f_a0_X12_11 f_a0_X12_12 f_a0_X12_8 hPS (lv_sub hl [0] rfl)
      · simp only [fa_lt, fa_le, fa_eq, li_47] at c_24
        refine lv_aload_n hx hb dX12_term_27 rfl (lv_at hl 0 rfl) ?_
        refine t_calli (va_runV (As := []) (rest := []) ⟨hx, hb, hml, hown, hts⟩ (t_X12_see l dC dI tys κ B w_6 hw.2.2.2.2 a0 k_a0 v19n (by omega) (by omega) f_a0_X12_8 v10q1 (by omega) (by omega) f_a0_X12_1 H.size) (cwV 0 hts (gUV tw_1264 tw_1266 ts_3_3 tw_13 tw_1267) rfl rfl rfl (by decide +kernel) ⟨(Nat.le_of_ble_eq_true rfl), (Nat.le_of_ble_eq_true rfl)⟩) ⟨cPre.blind, t_recv hw (ci := 12) k_a0 rfl rfl, cPre.use hw.2.1 hw.1 hw.2.2.1 hE⟩ rfl rfl hl.1 rfl (lv_room (Nat.le_of_ble_eq_true rfl)) dX12_term_28 ⟨(Nat.le_of_ble_eq_true rfl), (Nat.le_of_ble_eq_true rfl)⟩) hw hA (fun _ _ h => h.2.2.1) (fun v28 w_7 H locs hp hw => ?_)
        obtain ⟨l_v28, h_v28, _, hm, ⟨v28n, l_v28n, h_v28n, f_a0_X12_8, y_v28⟩⟩ := hp
        have hM := hM.trans hm (by decide) (by decide)
        have f_a0_X12_11 := hm.1 _ _ _ _ f_a0_X12_11 (by decide)
        have f_a0_X12_12 := hm.1 _ _ _ _ f_a0_X12_12 (by decide)
        have f_a0_X12_1 := hm.1 _ _ _ _ f_a0_X12_1 (by decide)
        have hPS := hPS.sm hm (by decide) (by decide)
        have hRT := hRT.sm hm (by decide) (by decide)
        refine lv_bipush (v := 37) hx hb dX12_term_31 (by decide) ?_
        refine lv_icmp_ne (tgt := 103) hx hb dX12_term_33 (by decide) (fun c_33 => ?_) (fun c_33 => ?_)
        · simp only [fa_lt, fa_le, fa_eq, li_37] at c_33
          refine lv_iconst (v := 1) hx hb dX12_term_103 (by decide) ?_
          rw [hQ]
          refine W.widen (k := 0) (n := 0) (Nat.le_refl _) (Nat.le_refl _) ?_
          exact W.zret (v := 1) hx hb hr rfl (fun t ht hW => ⟨⟨1, w_7, rfl, ⟨(by decide), (by decide), hw.2.2.2.2, hM, ⟨p9_m_a0_X12_12, (by omega), (by omega), f_a0_X12_12, (by have := li_1; omega), ⟨fun hz => absurd hz (by decide), fun _ => hPS.to (by omega) (by omega)⟩⟩⟩, by rw [ht]; exact hw.2.1, va_K.moved hW.alike hw.1, hw.2.2.1⟩, hw.2.2.2.1.F ht⟩) hw.2.2.2.1.2.2 dX12_term_104
        · simp only [fa_lt, fa_le, fa_eq, li_37] at c_33
          exact J36 _ _ _ w_7 v28n hw hM (by omega) (by omega) f_a0_X12_1 f_a0_X12_11 f_a0_X12_12 f_a0_X12_8 hPS (lv_sub hl [0] rfl)
  refine lv_if_ne (tgt := 9) hx hb dX12_term_4 (by decide) (fun c_4 => ?_) (fun c_4 => ?_)
  · simp only [fa_lt, fa_le, fa_eq, li_0] at c_4
    have hPS := g_v1.2 c_4
    have hRT := hPS.rt
    exact J9 _ _ _ _ ⟨w_1, v1m, hw, hM, (by omega), (by omega), f_a0_X12_11, f_a0_X12_12, (by omega), (hPS.to (by omega) (by omega)), (lv_sub hl [0] rfl), rfl⟩
  · simp only [fa_lt, fa_le, fa_eq, li_0] at c_4
    have hRT := g_v1.1 c_4
    refine lv_iconst (v := 0) hx hb dX12_term_7 (by decide) ?_
    rw [hQ]
    refine W.widen (k := 0) (n := 0) (Nat.le_refl _) (Nat.le_refl _) ?_
    exact W.zret (v := 0) hx hb hr rfl (fun t ht hW => ⟨⟨0, w_1, rfl, ⟨(by decide), (by decide), hw.2.2.2.2, hM, ⟨v1m, (by omega), (by omega), f_a0_X12_12, (by have := li_0; omega), ⟨fun _ => hRT, fun hz => absurd (by decide) hz⟩⟩⟩, by rw [ht]; exact hw.2.1, va_K.moved hW.alike hw.1, hw.2.2.1⟩, hw.2.2.2.1.F ht⟩) hw.2.2.2.1.2.2 dX12_term_8
set_option maxHeartbeats 4000000 in
set_option maxRecDepth 100000 in
theorem t_X12_sum (l : Launch) (dC : Nat → ClassId) (dI : Nat → Nat → Nat) (tys : List (ClassId × FieldType)) (κ : tK) (B : Nat) (ws : va_W) (hT : Ty κ tys B ws) (a0 : Nat) (k_a0 : κ a0 = some 12) (f0 : Int32) (l_f0 : 0 ≤ f0.toInt) (h_f0 : f0.toInt ≤ 60) (f_a0_X12_12 : fld ws a0 12 12 (.int f0)) (f1 : Int32) (l_f1 : 0 ≤ f1.toInt) (h_f1 : f1.toInt ≤ 5) (f_a0_X12_11 : fld ws a0 12 11 (.int f1)) {pb pe b h φ nc : Int} (hPS : PS κ ws a0 f1.toInt.toNat pb pe b h φ nc) (hφ : φ ≤ 2 * f0.toInt + 250) (h0 : 0 ≤ h) (hh : h ≤ f0.toInt) (sz : Nat) : Met l yX12_sum (ws_u yX12_sum cX12_sum 2 (some .boolean)) ({ frames := 5, cells := 0, slots := 0, locals := 109 }) (va_Pc [.ref a0] (cPre (dC, dI) tys ws sz)) (va_Qi (fun (r : Int32) (w : va_W) => 0 ≤ r.toInt ∧ r.toInt ≤ 1 ∧ Ty κ tys B w ∧ Sm [(12, 8), (12, 9), (12, 10), (12, 12)] [55, 56] κ ws w ∧ (∃ (xm : Int32), 0 ≤ xm.toInt ∧ xm.toInt ≤ 60 ∧ fld w a0 12 12 (.int xm) ∧ (r.toInt = 0 ∨ f0.toInt + 1 ≤ xm.toInt) ∧ Alt r (RT κ w a0) (PS κ w a0 f1.toInt.toNat pb pe b (h + 1) (φ + 2 * (xm.toInt - f0.toInt) - 1) nc))) (fun w t => cPost (dC, dI) tys w (va_A ws sz) t) (va_A ws sz)) 0 0 (va_A ws sz) := by
  refine Met.ofW (cc := cX12_sum) (maxL := 2) (ret := (some .boolean)) (by decide) rfl ?_
  intro p e s m args below meth c s₁ B0 hml hv
  obtain ⟨rfl, hsz, hP, hK, hD0, hE⟩ := hv
  have hx := B0.exec
  have hb := B0.bytes
  have hr := B0.returns
  have hts0 := atoms_spec (ws := ws_u yX12_sum cX12_sum 2 (some .boolean)) B0.pre
  have hts : ∀ w ∈ gT, w.before _ s = true := fun w h => hts0 w (List.mem_cons_of_mem _ h)
  have hown : s.vm.findClass RX12 = some m.cls := findClass_of_methodNamed B0.named
  have hlocks := B0.notSynchronized
  subst hsz
  have hD := hD0.self (sz := s.heap.size)
  generalize hAe : va_A ws s.heap.size = A at hD ⊢
  have hA : ∀ q : Nat, s.heap.size ≤ q → A q := fun q h => by rw [← hAe]; exact Or.inr h
  have hw : tW (dC, dI) tys κ B A s ws s.heap [] := ⟨hK, hP, hD, va_S.rf, hT⟩
  have hM : Sm [(12, 8), (12, 9), (12, 10), (12, 12)] [55, 56] κ ws ws := Sm.rf
  clear hP hK hD hD0 hts0
  have hl := lv_entry ([.ref a0]) (n := 2) (Nat.le_of_ble_eq_true rfl)
  rw [lg_entry_eq]
  generalize (lg_sl ([.ref a0]) ++ List.replicate (2 - (lg_sl ([.ref a0])).length) Slot.unset).toArray = ls at hl ⊢
  have hl : lv_has ls 2 [(0, .ref a0)] := hl
  refine t_start (fun QQ hQ => ?_)
  have hRT := hPS.rt
  refine lv_aload_n hx hb dX12_sum_0 rfl (lv_at hl 0 rfl) ?_
  refine t_calli (va_runV (As := []) (rest := []) ⟨hx, hb, hml, hown, hts⟩ (t_X12_term l dC dI tys κ B ws hw.2.2.2.2 a0 k_a0 f0 (by omega) (by omega) f_a0_X12_12 f1 (by omega) (by omega) f_a0_X12_11 hPS (by omega) (by omega) (by omega) s.heap.size) (cwV 0 hts (gUV tw_1351 tw_1353 ts_4_6 tw_13 tw_1354) rfl rfl rfl (by decide +kernel) ⟨(Nat.le_of_ble_eq_true rfl), (Nat.le_of_ble_eq_true rfl)⟩) ⟨cPre.blind, t_recv hw (ci := 12) k_a0 rfl rfl, cPre.use hw.2.1 hw.1 hw.2.2.1 hE⟩ rfl rfl hl.1 rfl (lv_room (Nat.le_of_ble_eq_true rfl)) dX12_sum_1 ⟨(Nat.le_of_ble_eq_true rfl), (Nat.le_of_ble_eq_true rfl)⟩) hw hA (fun _ _ h => h.2.2.1) (fun v1 w_1 H locs hp hw => ?_)
  obtain ⟨l_v1, h_v1, _, hm, ⟨v1m, l_v1m, h_v1m, f_a0_X12_12, y_v1, g_v1⟩⟩ := hp
  have hM := hM.trans hm (by decide) (by decide)
  have f_a0_X12_11 := hm.1 _ _ _ _ f_a0_X12_11 (by decide)
  have J9 : ∀ (n : Nat) (H : Heap) (locs : List Loc) (ls : Array Slot), (∃ (w9 : va_W) (p9_m_a0_X12_12 : Int32), tW (dC, dI) tys κ B A s w9 H locs ∧ Sm [(12, 8), (12, 9), (12, 10), (12, 12)] [55, 56] κ ws w9 ∧ 0 ≤ p9_m_a0_X12_12.toInt ∧ p9_m_a0_X12_12.toInt ≤ 60 ∧ fld w9 a0 12 11 (.int f1) ∧ fld w9 a0 12 12 (.int p9_m_a0_X12_12) ∧ f0.toInt + 1 ≤ p9_m_a0_X12_12.toInt ∧ PS κ w9 a0 f1.toInt.toNat pb pe b (h + 1) (φ + 2 * (p9_m_a0_X12_12.toInt - f0.toInt) - 1) nc ∧ lv_has ls 2 [(0, .ref a0)] ∧ (60 - p9_m_a0_X12_12.toInt).toNat = n) → W p l e (headSpec (ws_u yX12_sum cX12_sum 2 (some .boolean)) ({ frames := 5, cells := 0, slots := 0, locals := 109 })).room s m ([.ref a0] : List Value).toArray below meth c H locs 0 0 QQ (F0 m 9 ls []) := by
    refine loopT _ ?_
    intro n_9 H locs ls hI ih_9
    obtain ⟨w9, p9_m_a0_X12_12, hw, hM, l_p9_m_a0_X12_12, h_p9_m_a0_X12_12, f_a0_X12_11, f_a0_X12_12, li_9_0, hPS, hl, hn_9⟩ := hI
    have hRT := hPS.rt
    refine lv_aload_n hx hb dX12_sum_9 rfl (lv_at hl 0 rfl) ?_
    obtain ⟨u_v10q0, q_v10q0, f_a0_X12_8⟩ := t_peek (k := 8) hw.2.2.2.2 k_a0 rfl (by decide)
    obtain ⟨v10q0, rfl, l_v10q0, h_v10q0⟩ := q_v10q0.geti (lo := 0) (hi := 401) rfl
    obtain ⟨u_v10q1, q_v10q1, f_a0_X12_1⟩ := t_peek (k := 1) hw.2.2.2.2 k_a0 rfl (by decide)
    obtain ⟨v10q1, rfl, l_v10q1, h_v10q1⟩ := q_v10q1.geti (lo := 0) (hi := 400) rfl
    refine t_calli (va_runV (As := []) (rest := []) ⟨hx, hb, hml, hown, hts⟩ (t_X12_see l dC dI tys κ B w9 hw.2.2.2.2 a0 k_a0 v10q0 (by omega) (by omega) f_a0_X12_8 v10q1 (by omega) (by omega) f_a0_X12_1 H.size) (cwV 0 hts (gUV tw_1264 tw_1266 ts_3_3 tw_13 tw_1267) rfl rfl rfl (by decide +kernel) ⟨(Nat.le_of_ble_eq_true rfl), (Nat.le_of_ble_eq_true rfl)⟩) ⟨cPre.blind, t_recv hw (ci := 12) k_a0 rfl rfl, cPre.use hw.2.1 hw.1 hw.2.2.1 hE⟩ rfl rfl hl.1 rfl (lv_room (Nat.le_of_ble_eq_true rfl)) dX12_sum_10 ⟨(Nat.le_of_ble_eq_true rfl), (Nat.le_of_ble_eq_true rfl)⟩) hw hA (fun _ _ h => h.2.2.1) (fun v10 w_2 H locs hp hw => ?_)
    obtain ⟨l_v10, h_v10, _, hm, ⟨v10n, l_v10n, h_v10n, f_a0_X12_8, y_v10⟩⟩ := hp
    have hM := hM.trans hm (by decide) (by decide)
    have f_a0_X12_11 := hm.1 _ _ _ _ f_a0_X12_11 (by decide)
    have f_a0_X12_12 := hm.1 _ _ _ _ f_a0_X12_12 (by decide)
    have f_a0_X12_1 := hm.1 _ _ _ _ f_a0_X12_1 (by decide)
    have hPS := hPS.sm hm (by decide) (by decide)
    have hRT := hRT.sm hm (by decide) (by decide)
    refine lv_bipush (v := 43) hx hb dX12_sum_13 (by decide) ?_
    have J27 : ∀ (H : Heap) (locs : List Loc) (ls : Array Slot) (w27 : va_W) (p27_m_a0_X12_8 : Int32), tW (dC, dI) tys κ B A s w27 H locs → Sm [(12, 8), (12, 9), (12, 10), (12, 12)] [55, 56] κ ws w27 → 0 ≤ p27_m_a0_X12_8.toInt → p27_m_a0_X12_8.toInt ≤ 399 → fld w27 a0 12 1 (.int v10q1) → fld w27 a0 12 11 (.int f1) → fld w27 a0 12 12 (.int p9_m_a0_X12_12) → fld w27 a0 12 8 (.int p27_m_a0_X12_8) → PS κ w27 a0 f1.toInt.toNat pb pe b (h + 1) (φ + 2 * (p9_m_a0_X12_12.toInt - f0.toInt) - 1) nc → lv_has ls 2 [(0, .ref a0)] → W p l e (headSpec (ws_u yX12_sum cX12_sum 2 (some .boolean)) ({ frames := 5, cells := 0, slots := 0, locals := 109 })).room s m ([.ref a0] : List Value).toArray below meth c H locs 0 0 QQ (F0 m 27 ls []) := by
      intro H locs ls w27 p27_m_a0_X12_8 hw hM l_p27_m_a0_X12_8 h_p27_m_a0_X12_8 f_a0_X12_1 f_a0_X12_11 f_a0_X12_12 f_a0_X12_8 hPS hl
      have hRT := hPS.rt
      refine lv_aload_n hx hb dX12_sum_27 rfl (lv_at hl 0 rfl) ?_
      refine t_getr (k1 := 54) (ci := 12) (C := RX12) (T := TX12) (N := 38) hx hb hts iX12 hown hw k_a0 rfl rfl rfl 0 (by decide) (hts _ tw_1125) (fun _ h9 => h9) dX12_sum_28 rfl (fun v28 k_v28 f_a0_X12_0 => ?_)
      refine lv_aload_n hx hb dX12_sum_31 rfl (lv_at hl 0 rfl) ?_
      refine t_getk (ci := 12) (C := RX12) (T := TX12) (N := 38) hx hb hts iX12 hown hw rfl 8 (by decide) (hts _ tw_1133) (fun _ h9 => h9) dX12_sum_32 f_a0_X12_8 ?_
      refine t_bald hx hb hw k_v28 rfl rfl (by omega) (show p27_m_a0_X12_8.toInt < 400 by omega) dX12_sum_35 (fun v35 r_v35 s_v35 q_v35 => ?_)
      have l_v35 := i32_lo v35
      have h_v35 := i32_hi v35
      refine lv_bipush (v := 43) hx hb dX12_sum_36 (by decide) ?_
      have J46 : ∀ (H : Heap) (locs : List Loc) (ls : Array Slot) (w46 : va_W) (p46_s0 : Int32), tW (dC, dI) tys κ B A s w46 H locs → Sm [(12, 8), (12, 9), (12, 10), (12, 12)] [55, 56] κ ws w46 → 2 ≤ p46_s0.toInt → p46_s0.toInt ≤ 3 → fld w46 a0 12 0 (.ref v28) → fld w46 a0 12 1 (.int v10q1) → fld w46 a0 12 11 (.int f1) → fld w46 a0 12 12 (.int p9_m_a0_X12_12) → fld w46 a0 12 8 (.int p27_m_a0_X12_8) → PS κ w46 a0 f1.toInt.toNat pb pe b (h + 1) (φ + 2 * (p9_m_a0_X12_12.toInt - f0.toInt) - 1) nc → lv_has ls 2 [(0, .ref a0)] → W p l e (headSpec (ws_u yX12_sum cX12_sum 2 (some .boolean)) ({ frames := 5, cells := 0, slots := 0, locals := 109 })).room s m ([.ref a0] : List Value).toArray below meth c H locs 0 0 QQ (F0 m 46 ls [.int p46_s0]) := by
        intro H locs ls w46 p46_s0 hw hM l_p46_s0 h_p46_s0 f_a0_X12_0 f_a0_X12_1 f_a0_X12_11 f_a0_X12_12 f_a0_X12_8 hPS hl
        have hRT := hPS.rt
        refine lv_istore_n (lv' := [(1, .int p46_s0), (0, .ref a0)]) hx hb dX12_sum_46 rfl hl (by decide) rfl (fun ls hl => ?_)
        refine lv_aload_n hx hb dX12_sum_47 rfl (lv_at hl 1 rfl) ?_
        refine lv_dup hx hb dX12_sum_48 rfl ?_
        refine t_getk (ci := 12) (C := RX12) (T := TX12) (N := 38) hx hb hts iX12 hown hw rfl 8 (by decide) (hts _ tw_1133) (fun _ h9 => h9) dX12_sum_49 f_a0_X12_8 ?_
        refine lv_iconst (v := 1) hx hb dX12_sum_52 (by decide) ?_
        refine lv_iadd hx hb dX12_sum_53 ?_
        refine lv_topi (fun v53 e_v53 => ?_)
        have e_v53 : v53.toInt = p27_m_a0_X12_8.toInt + 1 := ad_i e_v53 rfl li_1 (by omega) (by omega)
        refine t_put (ci := 12) (C := RX12) (T := TX12) (N := 38) (v := .int v53) hx hb hts iX12 tyX12 tyX12_ok nmX12 hown hw k_a0 rfl rfl rfl 8 (by decide) (hts _ tw_1133) (fun _ h9 => h9) rfl (tyX12_ok 8 (by decide)) rfl rfl (okV.int rfl (by omega) (by omega)) dX12_sum_54 (fun w_3 H locs hw u => ?_)
        have hM := hM.up1 u (by decide)
        have f_a0_X12_0 := u.1 _ _ _ _ f_a0_X12_0 (Or.inr (Or.inr (by decide)))
        have f_a0_X12_1 := u.1 _ _ _ _ f_a0_X12_1 (Or.inr (Or.inr (by decide)))
        have f_a0_X12_11 := u.1 _ _ _ _ f_a0_X12_11 (Or.inr (Or.inr (by decide)))
        have f_a0_X12_12 := u.1 _ _ _ _ f_a0_X12_12 (Or.inr (Or.inr (by decide)))
        have f_a0_X12_8 := u.2.2
        have hPS := hPS.sm (Sm.of1 u) (by decide) (by decide)
        have hRT := hRT.sm (Sm.of1 u) (by decide) (by decide)
        refine lv_aload_n hx hb dX12_sum_57 rfl (lv_at hl 1 rfl) ?_
        refine t_calli (va_runV (As := []) (rest := []) ⟨hx, hb, hml, hown, hts⟩ (t_X12_term l dC dI tys κ B w_3 hw.2.2.2.2 a0 k_a0 p9_m_a0_X12_12 (by omega) (by omega) f_a0_X12_12 f1 (by omega) (by omega) f_a0_X12_11 hPS (by omega) (by omega) (by omega) H.size) (cwV 0 hts (gUV tw_1351 tw_1353 ts_4_6 tw_13 tw_1354) rfl rfl rfl (by decide +kernel) ⟨(Nat.le_of_ble_eq_true rfl), (Nat.le_of_ble_eq_true rfl)⟩) ⟨cPre.blind, t_recv hw (ci := 12) k_a0 rfl rfl, cPre.use hw.2.1 hw.1 hw.2.2.1 hE⟩ rfl rfl hl.1 rfl (lv_room (Nat.le_of_ble_eq_true rfl)) dX12_sum_58 ⟨(Nat.le_of_ble_eq_true rfl), (Nat.le_of_ble_eq_true rfl)⟩) hw hA (fun _ _ h => h.2.2.1) (fun v58 w_4 H locs hp hw => ?_)
        obtain ⟨l_v58, h_v58, _, hm, ⟨v58m, l_v58m, h_v58m, f_a0_X12_12, y_v58, g_v58⟩⟩ := hp
        have hM := hM.trans hm (by decide) (by decide)
        have f_a0_X12_0 := hm.1 _ _ _ _ f_a0_X12_0 (by decide)
        have f_a0_X12_1 := hm.1 _ _ _ _ f_a0_X12_1 (by decide)
        have f_a0_X12_11 := hm.1 _ _ _ _ f_a0_X12_11 (by decide)
        refine lv_if_ne (tgt := 66) hx hb dX12_sum_61 (by decide) (fun c_61 => ?_) (fun c_61 => ?_)
        · simp only [fa_lt, fa_le, fa_eq, li_0] at c_61
          have hPS := g_v58.2 c_61
          have hRT := hPS.rt
          refine lv_aload_n hx hb dX12_sum_66 rfl (lv_at hl 1 rfl) ?_
          refine lv_iload_n hx hb dX12_sum_67 rfl (lv_at hl 0 rfl) ?_
          refine lv_iconst (v := 0) hx hb dX12_sum_68 (by decide) ?_
          refine t_callv (va_runV (As := [.int p46_s0, .int 0]) (rest := []) ⟨hx, hb, hml, hown, hts⟩ (t_X12_puts l dC dI tys κ B w_4 hw.2.2.2.2 a0 k_a0 p46_s0 (by omega) (by omega) 0 (by decide) (by decide) f1 (by omega) (by omega) f_a0_X12_11 hPS (by omega) (by have := li_0; exact ⟨fun _ => by omega, fun _ => by omega, fun _ => by omega, fun _ _ _ => by omega⟩) H.size) (cwV 2 hts (gUV tw_1364 tw_1366 ts_4_9 tw_13 tw_1367) rfl rfl rfl (by decide +kernel) ⟨(Nat.le_of_ble_eq_true rfl), (Nat.le_of_ble_eq_true rfl)⟩) ⟨cPre.blind, t_recv hw (ci := 12) k_a0 rfl rfl, cPre.use hw.2.1 hw.1 hw.2.2.1 hE⟩ rfl rfl hl.1 rfl (lv_room (Nat.le_of_ble_eq_true rfl)) dX12_sum_69 ⟨(Nat.le_of_ble_eq_true rfl), (Nat.le_of_ble_eq_true rfl)⟩) hw hA (fun _ h => h.1) (fun w_5 H locs hp hw => ?_)
          obtain ⟨_, hm, ⟨h9_v69, hPS, hh_v69⟩⟩ := hp
          have zc_0 := li_0
          have hM := hM.trans hm (by decide) (by decide)
          have f_a0_X12_0 := hm.1 _ _ _ _ f_a0_X12_0 (by decide)
          have f_a0_X12_1 := hm.1 _ _ _ _ f_a0_X12_1 (by decide)
          have f_a0_X12_11 := hm.1 _ _ _ _ f_a0_X12_11 (by decide)
          have f_a0_X12_12 := hm.1 _ _ _ _ f_a0_X12_12 (by decide)
          have hRT := hPS.rt
          refine lv_goto (tgt := 9) hx hb dX12_sum_72 (by decide) ?_
          exact ih_9 _ _ _ _ (by omega) ⟨w_5, v58m, hw, hM, (by omega), (by omega), f_a0_X12_11, f_a0_X12_12, (by omega), (hPS.to (by omega) (by omega)), (lv_sub hl [1] rfl), rfl⟩
        · simp only [fa_lt, fa_le, fa_eq, li_0] at c_61
          have hRT := g_v58.1 c_61
          refine lv_iconst (v := 0) hx hb dX12_sum_64 (by decide) ?_
          rw [hQ]
          refine W.widen (k := 0) (n := 0) (Nat.le_refl _) (Nat.le_refl _) ?_
          exact W.zret (v := 0) hx hb hr rfl (fun t ht hW => ⟨⟨0, w_4, rfl, ⟨(by decide), (by decide), hw.2.2.2.2, hM, ⟨v58m, (by omega), (by omega), f_a0_X12_12, (by have := li_0; omega), ⟨fun _ => hRT, fun hz => absurd (by decide) hz⟩⟩⟩, by rw [ht]; exact hw.2.1, va_K.moved hW.alike hw.1, hw.2.2.1⟩, hw.2.2.2.1.F ht⟩) hw.2.2.2.1.2.2 dX12_sum_65
      refine lv_icmp_ne (tgt := 45) hx hb dX12_sum_38 (by decide) (fun c_38 => ?_) (fun c_38 => ?_)
      · simp only [fa_lt, fa_le, fa_eq, li_43] at c_38
        refine lv_iconst (v := 3) hx hb dX12_sum_45 (by decide) ?_
        exact J46 _ _ _ w27 3 hw hM (by decide) (by decide) f_a0_X12_0 f_a0_X12_1 f_a0_X12_11 f_a0_X12_12 f_a0_X12_8 hPS (lv_sub hl [0] rfl)
      · simp only [fa_lt, fa_le, fa_eq, li_43] at c_38
        refine lv_iconst (v := 2) hx hb dX12_sum_41 (by decide) ?_
        refine lv_goto (tgt := 46) hx hb dX12_sum_42 (by decide) ?_
        exact J46 _ _ _ w27 2 hw hM (by decide) (by decide) f_a0_X12_0 f_a0_X12_1 f_a0_X12_11 f_a0_X12_12 f_a0_X12_8 hPS (lv_sub hl [0] rfl)
    refine lv_icmp_eq (tgt := 27) hx hb dX12_sum_15 (by decide) (fun c_15 => ?_) (fun c_15 => ?_)
    · simp only [fa_lt, fa_le, fa_eq, li_43] at c_15
      exact J27 _ _ _ w_2 v10n hw hM (by omega) (by omega) f_a0_X12_1 f_a0_X12_11 f_a0_X12_12 f_a0_X12_8 hPS (lv_sub hl [0] rfl)
    · simp only [fa_lt, fa_le, fa_eq, li_43] at c_15
      refine lv_aload_n hx hb dX12_sum_18 rfl (lv_at hl 0 rfl) ?_
      refine t_calli (va_runV (As := []) (rest := []) ⟨hx, hb, hml, hown, hts⟩ (t_X12_see l dC dI tys κ B w_2 hw.2.2.2.2 a0 k_a0 v10n (by omega) (by omega) f_a0_X12_8 v10q1 (by omega) (by omega) f_a0_X12_1 H.size) (cwV 0 hts (gUV tw_1264 tw_1266 ts_3_3 tw_13 tw_1267) rfl rfl rfl (by decide +kernel) ⟨(Nat.le_of_ble_eq_true rfl), (Nat.le_of_ble_eq_true rfl)⟩) ⟨cPre.blind, t_recv hw (ci := 12) k_a0 rfl rfl, cPre.use hw.2.1 hw.1 hw.2.2.1 hE⟩ rfl rfl hl.1 rfl (lv_room (Nat.le_of_ble_eq_true rfl)) dX12_sum_19 ⟨(Nat.le_of_ble_eq_true rfl), (Nat.le_of_ble_eq_true rfl)⟩) hw hA (fun _ _ h => h.2.2.1) (fun v19 w_6 H locs hp hw => ?_)
      obtain ⟨l_v19, h_v19, _, hm, ⟨v19n, l_v19n, h_v19n, f_a0_X12_8, y_v19⟩⟩ := hp
      have hM := hM.trans hm (by decide) (by decide)
      have f_a0_X12_11 := hm.1 _ _ _ _ f_a0_X12_11 (by decide)
      have f_a0_X12_12 := hm.1 _ _ _ _ f_a0_X12_12 (by decide)
      have f_a0_X12_1 := hm.1 _ _ _ _ f_a0_X12_1 (by decide)
      have hPS := hPS.sm hm (by decide) (by decide)
      have hRT := hRT.sm hm (by decide) (by decide)
      refine lv_bipush (v := 45) hx hb dX12_sum_22 (by decide) ?_
      refine lv_icmp_ne (tgt := 75) hx hb dX12_sum_24 (by decide) (fun c_24 => ?_) (fun c_24 => ?_)
      · simp only [fa_lt, fa_le, fa_eq, li_45] at c_24
        refine lv_iconst (v := 1) hx hb dX12_sum_75 (by decide) ?_
        rw [hQ]
        refine W.widen (k := 0) (n := 0) (Nat.le_refl _) (Nat.le_refl _) ?_
        exact W.zret (v := 1) hx hb hr rfl (fun t ht hW => ⟨⟨1, w_6, rfl, ⟨(by decide), (by decide), hw.2.2.2.2, hM, ⟨p9_m_a0_X12_12, (by omega), (by omega), f_a0_X12_12, (by have := li_1; omega), ⟨fun hz => absurd hz (by decide), fun _ => hPS.to (by omega) (by omega)⟩⟩⟩, by rw [ht]; exact hw.2.1, va_K.moved hW.alike hw.1, hw.2.2.1⟩, hw.2.2.2.1.F ht⟩) hw.2.2.2.1.2.2 dX12_sum_76
      · simp only [fa_lt, fa_le, fa_eq, li_45] at c_24
        exact J27 _ _ _ w_6 v19n hw hM (by omega) (by omega) f_a0_X12_1 f_a0_X12_11 f_a0_X12_12 f_a0_X12_8 hPS (lv_sub hl [0] rfl)
  refine lv_if_ne (tgt := 9) hx hb dX12_sum_4 (by decide) (fun c_4 => ?_) (fun c_4 => ?_)
  · simp only [fa_lt, fa_le, fa_eq, li_0] at c_4
    have hPS := g_v1.2 c_4
    have hRT := hPS.rt
    exact J9 _ _ _ _ ⟨w_1, v1m, hw, hM, (by omega), (by omega), f_a0_X12_11, f_a0_X12_12, (by omega), (hPS.to (by omega) (by omega)), (lv_sub hl [0] rfl), rfl⟩
  · simp only [fa_lt, fa_le, fa_eq, li_0] at c_4
    have hRT := g_v1.1 c_4
    refine lv_iconst (v := 0) hx hb dX12_sum_7 (by decide) ?_
    rw [hQ]
    refine W.widen (k := 0) (n := 0) (Nat.le_refl _) (Nat.le_refl _) ?_
    exact W.zret (v := 0) hx hb hr rfl (fun t ht hW => ⟨⟨0, w_1, rfl, ⟨(by decide), (by decide), hw.2.2.2.2, hM, ⟨v1m, (by omega), (by omega), f_a0_X12_12, (by have := li_0; omega), ⟨fun _ => hRT, fun hz => absurd (by decide) hz⟩⟩⟩, by rw [ht]; exact hw.2.1, va_K.moved hW.alike hw.1, hw.2.2.1⟩, hw.2.2.2.1.F ht⟩) hw.2.2.2.1.2.2 dX12_sum_8
set_option maxHeartbeats 4000000 in
set_option maxRecDepth 100000 in
theorem t_X12_isInside (l : Launch) (dC : Nat → ClassId) (dI : Nat → Nat → Nat) (tys : List (ClassId × FieldType)) (κ : tK) (B : Nat) (ws : va_W) (hT : Ty κ tys B ws) (a0 : Nat) (k_a0 : κ a0 = some 12) (f0 : Int32) (l_f0 : 0 ≤ f0.toInt) (h_f0 : f0.toInt ≤ 400) (f_a0_X12_16 : fld ws a0 12 16 (.int f0)) {o : Nat → Int32} {dp : Int} (hOS : OS κ ws a0 o f0.toInt dp) (sz : Nat) : Met l yX12_isInside (ws_u yX12_isInside cX12_isInside 2 (some .boolean)) ({ frames := 0, cells := 0, slots := 0, locals := 0 }) (va_Pc [.ref a0] (cPre (dC, dI) tys ws sz)) (va_Qi (fun (r : Int32) (w : va_W) => 0 ≤ r.toInt ∧ r.toInt ≤ 1 ∧ Ty κ tys B w ∧ Sm [] [] κ ws w ∧ Alt r (∀ k : Nat, (k : Int) < f0.toInt → ¬ (o k).toInt = 91) (∃ k : Nat, (k : Int) < f0.toInt ∧ (o k).toInt = 91)) (fun w t => cPost (dC, dI) tys w (va_A ws sz) t) (va_A ws sz)) 0 0 (va_A ws sz) := by
  refine Met.ofW (cc := cX12_isInside) (maxL := 2) (ret := (some .boolean)) (by decide) rfl ?_
  intro p e s m args below meth c s₁ B0 hml hv
  obtain ⟨rfl, hsz, hP, hK, hD0, hE⟩ := hv
  have hx := B0.exec
  have hb := B0.bytes
  have hr := B0.returns
  have hts0 := atoms_spec (ws := ws_u yX12_isInside cX12_isInside 2 (some .boolean)) B0.pre
  have hts : ∀ w ∈ gT, w.before _ s = true := fun w h => hts0 w (List.mem_cons_of_mem _ h)
  have hown : s.vm.findClass RX12 = some m.cls := findClass_of_methodNamed B0.named
  have hlocks := B0.notSynchronized
  subst hsz
  have hD := hD0.self (sz := s.heap.size)
  generalize hAe : va_A ws s.heap.size = A at hD ⊢
  have hA : ∀ q : Nat, s.heap.size ≤ q → A q := fun q h => by rw [← hAe]; exact Or.inr h
  have hw : tW (dC, dI) tys κ B A s ws s.heap [] := ⟨hK, hP, hD, va_S.rf, hT⟩
  have hM : Sm [] [] κ ws ws := Sm.rf
  clear hP hK hD hD0 hts0
  have hl := lv_entry ([.ref a0]) (n := 2) (Nat.le_of_ble_eq_true rfl)
  rw [lg_entry_eq]
  generalize (lg_sl ([.ref a0]) ++ List.replicate (2 - (lg_sl ([.ref a0])).length) Slot.unset).toArray = ls at hl ⊢
  have hl : lv_has ls 2 [(0, .ref a0)] := hl
  refine t_start (fun QQ hQ => ?_)
  refine lv_iconst (v := 0) hx hb dX12_isInside_0 (by decide) ?_
  refine lv_istore_n (lv' := [(1, .int 0), (0, .ref a0)]) hx hb dX12_isInside_1 rfl hl (by decide) rfl (fun ls hl => ?_)
  have J2 : ∀ (n : Nat) (H : Heap) (locs : List Loc) (ls : Array Slot), (∃ (w2 : va_W) (p2_l1 : Int32), tW (dC, dI) tys κ B A s w2 H locs ∧ Sm [] [] κ ws w2 ∧ 0 ≤ p2_l1.toInt ∧ p2_l1.toInt ≤ 400 ∧ fld w2 a0 12 16 (.int f0) ∧ (∀ k : Nat, (k : Int) < p2_l1.toInt → ¬ (o k).toInt = 91) ∧ lv_has ls 2 [(0, .ref a0), (1, .int p2_l1)] ∧ (400 - p2_l1.toInt).toNat = n) → W p l e (headSpec (ws_u yX12_isInside cX12_isInside 2 (some .boolean)) ({ frames := 0, cells := 0, slots := 0, locals := 0 })).room s m ([.ref a0] : List Value).toArray below meth c H locs 0 0 QQ (F0 m 2 ls []) := by
    refine loopT _ ?_
    intro n_2 H locs ls hI ih_2
    obtain ⟨w2, p2_l1, hw, hM, l_p2_l1, h_p2_l1, f_a0_X12_16, hNo, hl, hn_2⟩ := hI
    refine lv_iload_n hx hb dX12_isInside_2 rfl (lv_at hl 1 rfl) ?_
    refine lv_aload_n hx hb dX12_isInside_3 rfl (lv_at hl 0 rfl) ?_
    refine t_getk (ci := 12) (C := RX12) (T := TX12) (N := 38) hx hb hts iX12 hown hw rfl 16 (by decide) (hts _ tw_1141) (fun _ h9 => h9) dX12_isInside_4 f_a0_X12_16 ?_
    refine lv_icmp_ge (tgt := 29) hx hb dX12_isInside_7 (by decide) (fun c_7 => ?_) (fun c_7 => ?_)
    · simp only [fa_lt, fa_le, fa_eq] at c_7
      refine lv_iconst (v := 0) hx hb dX12_isInside_29 (by decide) ?_
      rw [hQ]
      refine W.widen (k := 0) (n := 0) (Nat.le_refl _) (Nat.le_refl _) ?_
      exact W.zret (v := 0) hx hb hr rfl (fun t ht hW => ⟨⟨0, w2, rfl, ⟨(by decide), (by decide), hw.2.2.2.2, hM, ⟨fun _ k hk => hNo k (by omega), fun hz => absurd (by decide) hz⟩⟩, by rw [ht]; exact hw.2.1, va_K.moved hW.alike hw.1, hw.2.2.1⟩, hw.2.2.2.1.F ht⟩) hw.2.2.2.1.2.2 dX12_isInside_30
    · simp only [fa_lt, fa_le, fa_eq] at c_7
      refine lv_aload_n hx hb dX12_isInside_10 rfl (lv_at hl 0 rfl) ?_
      refine t_getr (k1 := 60) (ci := 12) (C := RX12) (T := TX12) (N := 38) hx hb hts iX12 hown hw k_a0 rfl rfl rfl 15 (by decide) (hts _ tw_1140) (fun _ h9 => h9) dX12_isInside_11 rfl (fun v11 k_v11 f_a0_X12_15 => ?_)
      refine lv_iload_n hx hb dX12_isInside_14 rfl (lv_at hl 1 rfl) ?_
      refine t_iald hx hb hw k_v11 rfl rfl (by omega) (show p2_l1.toInt < 400 by omega) dX12_isInside_15 (fun v15 r_v15 s_v15 q_v15 => ?_)
      have l_v15 := i32_lo v15
      have h_v15 := i32_hi v15
      have hv15 := (hOS.sm hM (by decide) (by decide)).at hw.2.2.1 f_a0_X12_15 q_v15
      have ho15 : (o p2_l1.toInt.toNat).toInt = v15.toInt := by rw [hv15]
      refine lv_bipush (v := 91) hx hb dX12_isInside_16 (by decide) ?_
      refine lv_icmp_ne (tgt := 23) hx hb dX12_isInside_18 (by decide) (fun c_18 => ?_) (fun c_18 => ?_)
      · simp only [fa_lt, fa_le, fa_eq, li_91] at c_18
        obtain ⟨v23, e_v23⟩ : ∃ y : Int32, y = p2_l1 + 1 := ⟨_, rfl⟩
        refine lv_iinc (v := v23) (lv' := [(1, .int v23), (0, .ref a0)]) hx hb dX12_isInside_23 hl (k := 1) rfl e_v23.symm (by decide) rfl (fun ls hl => ?_)
        have e_v23 : v23.toInt = p2_l1.toInt + 1 := ad_i e_v23 rfl li_1 (by omega) (by omega)
        refine lv_goto (tgt := 2) hx hb dX12_isInside_26 (by decide) ?_
        exact ih_2 _ _ _ _ (by omega) ⟨w2, v23, hw, hM, (by omega), (by omega), f_a0_X12_16, (fun k hk => (Classical.em (k = p2_l1.toInt.toNat)).elim (fun hq => by subst hq; omega) (fun hq => hNo k (by omega))), (lv_sub hl [1, 0] rfl), rfl⟩
      · simp only [fa_lt, fa_le, fa_eq, li_91] at c_18
        refine lv_iconst (v := 1) hx hb dX12_isInside_21 (by decide) ?_
        rw [hQ]
        refine W.widen (k := 0) (n := 0) (Nat.le_refl _) (Nat.le_refl _) ?_
        exact W.zret (v := 1) hx hb hr rfl (fun t ht hW => ⟨⟨1, w2, rfl, ⟨(by decide), (by decide), hw.2.2.2.2, hM, ⟨fun hz => absurd hz (by decide), fun _ => ⟨p2_l1.toInt.toNat, by omega, by omega⟩⟩⟩, by rw [ht]; exact hw.2.1, va_K.moved hW.alike hw.1, hw.2.2.1⟩, hw.2.2.2.1.F ht⟩) hw.2.2.2.1.2.2 dX12_isInside_22
  exact J2 _ _ _ _ ⟨ws, 0, hw, hM, (by decide), (by decide), f_a0_X12_16, (fun k hk => absurd hk (by have := li_0; omega)), (lv_sub hl [1, 0] rfl), rfl⟩
set_option maxHeartbeats 4000000 in
set_option maxRecDepth 100000 in
theorem t_X12_strength (l : Launch) (dC : Nat → ClassId) (dI : Nat → Nat → Nat) (tys : List (ClassId × FieldType)) (κ : tK) (B : Nat) (ws : va_W) (hT : Ty κ tys B ws) (a0 : Int32) (sz : Nat) : Met l yX12_strength (ws_u yX12_strength cX12_strength 1 (some .int)) ({ frames := 0, cells := 0, slots := 0, locals := 0 }) (va_Pc [.int a0] (cPre (dC, dI) tys ws sz)) (va_Qi (fun (r : Int32) (w : va_W) => 0 ≤ r.toInt ∧ r.toInt ≤ 3 ∧ Ty κ tys B w ∧ Sm [] [] κ ws w ∧ ((a0.toInt = 13 ∧ r.toInt = 1) ∨ (a0.toInt = 12 ∧ r.toInt = 2) ∨ (a0.toInt = 11 ∧ r.toInt = 3) ∨ (a0.toInt ≠ 13 ∧ a0.toInt ≠ 12 ∧ a0.toInt ≠ 11 ∧ r.toInt = 0))) (fun w t => cPost (dC, dI) tys w (va_A ws sz) t) (va_A ws sz)) 0 0 (va_A ws sz) := by
  refine Met.ofW (cc := cX12_strength) (maxL := 1) (ret := (some .int)) (by decide) rfl ?_
  intro p e s m args below meth c s₁ B0 hml hv
  obtain ⟨rfl, hsz, hP, hK, hD0, hE⟩ := hv
  have hx := B0.exec
  have hb := B0.bytes
  have hr := B0.returns
  have hts0 := atoms_spec (ws := ws_u yX12_strength cX12_strength 1 (some .int)) B0.pre
  have hts : ∀ w ∈ gT, w.before _ s = true := fun w h => hts0 w (List.mem_cons_of_mem _ h)
  have hown : s.vm.findClass RX12 = some m.cls := findClass_of_methodNamed B0.named
  have hlocks := B0.notSynchronized
  subst hsz
  have hD := hD0.self (sz := s.heap.size)
  generalize hAe : va_A ws s.heap.size = A at hD ⊢
  have hA : ∀ q : Nat, s.heap.size ≤ q → A q := fun q h => by rw [← hAe]; exact Or.inr h
  have hw : tW (dC, dI) tys κ B A s ws s.heap [] := ⟨hK, hP, hD, va_S.rf, hT⟩
  have hM : Sm [] [] κ ws ws := Sm.rf
  clear hP hK hD hD0 hts0
  have l_a0 := i32_lo a0
  have h_a0 := i32_hi a0
  have hl := lv_entry ([.int a0]) (n := 1) (Nat.le_of_ble_eq_true rfl)
  rw [lg_entry_eq]
  generalize (lg_sl ([.int a0]) ++ List.replicate (1 - (lg_sl ([.int a0])).length) Slot.unset).toArray = ls at hl ⊢
  have hl : lv_has ls 1 [(0, .int a0)] := hl
  refine t_start (fun QQ hQ => ?_)
  refine lv_iload_n hx hb dX12_strength_0 rfl (lv_at hl 0 rfl) ?_
  refine lv_bipush (v := 13) hx hb dX12_strength_1 (by decide) ?_
  refine lv_icmp_ne (tgt := 10) hx hb dX12_strength_3 (by decide) (fun c_3 => ?_) (fun c_3 => ?_)
  · simp only [fa_lt, fa_le, fa_eq, li_13] at c_3
    refine lv_iload_n hx hb dX12_strength_10 rfl (lv_at hl 0 rfl) ?_
    refine lv_bipush (v := 12) hx hb dX12_strength_11 (by decide) ?_
    refine lv_icmp_ne (tgt := 20) hx hb dX12_strength_13 (by decide) (fun c_13 => ?_) (fun c_13 => ?_)
    · simp only [fa_lt, fa_le, fa_eq, li_12] at c_13
      refine lv_iload_n hx hb dX12_strength_20 rfl (lv_at hl 0 rfl) ?_
      refine lv_bipush (v := 11) hx hb dX12_strength_21 (by decide) ?_
      refine lv_icmp_ne (tgt := 30) hx hb dX12_strength_23 (by decide) (fun c_23 => ?_) (fun c_23 => ?_)
      · simp only [fa_lt, fa_le, fa_eq, li_11] at c_23
        refine lv_iconst (v := 0) hx hb dX12_strength_30 (by decide) ?_
        rw [hQ]
        refine W.widen (k := 0) (n := 0) (Nat.le_refl _) (Nat.le_refl _) ?_
        exact W.iret (v := 0) hx hb hr (fun t ht hW => ⟨⟨0, ws, rfl, ⟨(by decide), (by decide), hw.2.2.2.2, hM, (by have := li_0; omega)⟩, by rw [ht]; exact hw.2.1, va_K.moved hW.alike hw.1, hw.2.2.1⟩, hw.2.2.2.1.F ht⟩) hw.2.2.2.1.2.2 dX12_strength_31
      · simp only [fa_lt, fa_le, fa_eq, li_11] at c_23
        refine lv_iconst (v := 3) hx hb dX12_strength_26 (by decide) ?_
        refine lv_goto (tgt := 31) hx hb dX12_strength_27 (by decide) ?_
        rw [hQ]
        refine W.widen (k := 0) (n := 0) (Nat.le_refl _) (Nat.le_refl _) ?_
        exact W.iret (v := 3) hx hb hr (fun t ht hW => ⟨⟨3, ws, rfl, ⟨(by decide), (by decide), hw.2.2.2.2, hM, (by have := li_3; omega)⟩, by rw [ht]; exact hw.2.1, va_K.moved hW.alike hw.1, hw.2.2.1⟩, hw.2.2.2.1.F ht⟩) hw.2.2.2.1.2.2 dX12_strength_31
    · simp only [fa_lt, fa_le, fa_eq, li_12] at c_13
      refine lv_iconst (v := 2) hx hb dX12_strength_16 (by decide) ?_
      refine lv_goto (tgt := 31) hx hb dX12_strength_17 (by decide) ?_
      rw [hQ]
      refine W.widen (k := 0) (n := 0) (Nat.le_refl _) (Nat.le_refl _) ?_
      exact W.iret (v := 2) hx hb hr (fun t ht hW => ⟨⟨2, ws, rfl, ⟨(by decide), (by decide), hw.2.2.2.2, hM, (by have := li_2; omega)⟩, by rw [ht]; exact hw.2.1, va_K.moved hW.alike hw.1, hw.2.2.1⟩, hw.2.2.2.1.F ht⟩) hw.2.2.2.1.2.2 dX12_strength_31
  · simp only [fa_lt, fa_le, fa_eq, li_13] at c_3
    refine lv_iconst (v := 1) hx hb dX12_strength_6 (by decide) ?_
    refine lv_goto (tgt := 31) hx hb dX12_strength_7 (by decide) ?_
    rw [hQ]
    refine W.widen (k := 0) (n := 0) (Nat.le_refl _) (Nat.le_refl _) ?_
    exact W.iret (v := 1) hx hb hr (fun t ht hW => ⟨⟨1, ws, rfl, ⟨(by decide), (by decide), hw.2.2.2.2, hM, (by have := li_1; omega)⟩, by rw [ht]; exact hw.2.1, va_K.moved hW.alike hw.1, hw.2.2.1⟩, hw.2.2.2.1.F ht⟩) hw.2.2.2.1.2.2 dX12_strength_31
set_option maxHeartbeats 4000000 in
set_option maxRecDepth 100000 in
theorem t_X12_settles (l : Launch) (dC : Nat → ClassId) (dI : Nat → Nat → Nat) (tys : List (ClassId × FieldType)) (κ : tK) (B : Nat) (ws : va_W) (hT : Ty κ tys B ws) (a0 : Nat) (k_a0 : κ a0 = some 12) (a1 : Int32) (l_a1 : 1 ≤ a1.toInt) (h_a1 : a1.toInt ≤ 3) (f0 : Int32) (l_f0 : 0 ≤ f0.toInt) (h_f0 : f0.toInt ≤ 400) (f_a0_X12_16 : fld ws a0 12 16 (.int f0)) (f1 : Int32) (l_f1 : 0 ≤ f1.toInt) (h_f1 : f1.toInt ≤ 10) (f_a0_X12_13 : fld ws a0 12 13 (.int f1)) (f2 : Int32) (l_f2 : 0 ≤ f2.toInt) (h_f2 : f2.toInt ≤ 5) (f_a0_X12_11 : fld ws a0 12 11 (.int f2)) {o : Nat → Int32} (hOS : OS κ ws a0 o f0.toInt f1.toInt) {pb pe b h φ nc : Int} (hPS : PS κ ws a0 f2.toInt.toNat pb pe b h φ nc) (hh : h = f0.toInt - f1.toInt + 1) (hφ : φ + f0.toInt ≤ 399) (sz : Nat) : Met l yX12_settles (ws_u yX12_settles cX12_settles 2 none) ({ frames := 1, cells := 0, slots := 0, locals := 22 }) (va_Pc [.ref a0, .int a1] (cPre (dC, dI) tys ws sz)) (va_Qv (fun (w : va_W) => Ty κ tys B w ∧ Sm [(12, 13), (12, 16)] [55, 56] κ ws w ∧ (∃ (xo : Int32) (xd : Int32), 0 ≤ xo.toInt ∧ xo.toInt ≤ 400 ∧ 0 ≤ xd.toInt ∧ xd.toInt ≤ 10 ∧ fld w a0 12 16 (.int xo) ∧ fld w a0 12 13 (.int xd) ∧ (xo.toInt ≤ f0.toInt ∧ xo.toInt - xd.toInt ≤ f0.toInt - f1.toInt) ∧ OS κ w a0 o xo.toInt xd.toInt ∧ PS κ w a0 f2.toInt.toNat pb pe b (xo.toInt - xd.toInt + 1) (φ + f0.toInt - xo.toInt) nc ∧ (∀ k : Nat, (k : Int) < f0.toInt → (o k).toInt = 91 → (k : Int) < xo.toInt) ∧ (xo.toInt = 0 ∨ a1.toInt ≠ 1 ∨ (o (xo.toInt - 1).toNat).toInt = 91))) (fun w t => cPost (dC, dI) tys w (va_A ws sz) t) (va_A ws sz)) 0 0 (va_A ws sz) := by
  refine Met.ofW (cc := cX12_settles) (maxL := 2) (ret := none) (by decide) rfl ?_
  intro p e s m args below meth c s₁ B0 hml hv
  obtain ⟨rfl, hsz, hP, hK, hD0, hE⟩ := hv
  have hx := B0.exec
  have hb := B0.bytes
  have hr := B0.returns
  have hts0 := atoms_spec (ws := ws_u yX12_settles cX12_settles 2 none) B0.pre
  have hts : ∀ w ∈ gT, w.before _ s = true := fun w h => hts0 w (List.mem_cons_of_mem _ h)
  have hown : s.vm.findClass RX12 = some m.cls := findClass_of_methodNamed B0.named
  have hlocks := B0.notSynchronized
  subst hsz
  have hD := hD0.self (sz := s.heap.size)
  generalize hAe : va_A ws s.heap.size = A at hD ⊢
  have hA : ∀ q : Nat, s.heap.size ≤ q → A q := fun q h => by rw [← hAe]; exact Or.inr h
  have hw : tW (dC, dI) tys κ B A s ws s.heap [] := ⟨hK, hP, hD, va_S.rf, hT⟩
  have hM : Sm [(12, 13), (12, 16)] [55, 56] κ ws ws := Sm.rf
  clear hP hK hD hD0 hts0
  have hl := lv_entry ([.ref a0, .int a1]) (n := 2) (Nat.le_of_ble_eq_true rfl)
  rw [lg_entry_eq]
  generalize (lg_sl ([.ref a0, .int a1]) ++ List.replicate (2 - (lg_sl ([.ref a0, .int a1])).length) Slot.unset).toArray = ls at hl ⊢
  have hl : lv_has ls 2 [(0, .ref a0), (1, .int a1)] := hl
  refine t_start (fun QQ hQ => ?_)
  have J0 : ∀ (n : Nat) (H : Heap) (locs : List Loc) (ls : Array Slot), (∃ (w0 : va_W) (p0_m_a0_X12_13 : Int32) (p0_m_a0_X12_16 : Int32), tW (dC, dI) tys κ B A s w0 H locs ∧ Sm [(12, 13), (12, 16)] [55, 56] κ ws w0 ∧ 0 ≤ p0_m_a0_X12_13.toInt ∧ p0_m_a0_X12_13.toInt ≤ 10 ∧ 0 ≤ p0_m_a0_X12_16.toInt ∧ p0_m_a0_X12_16.toInt ≤ 400 ∧ fld w0 a0 12 11 (.int f2) ∧ fld w0 a0 12 13 (.int p0_m_a0_X12_13) ∧ fld w0 a0 12 16 (.int p0_m_a0_X12_16) ∧ p0_m_a0_X12_16.toInt ≤ f0.toInt ∧ p0_m_a0_X12_16.toInt - p0_m_a0_X12_13.toInt ≤ f0.toInt - f1.toInt ∧ OS κ w0 a0 o p0_m_a0_X12_16.toInt p0_m_a0_X12_13.toInt ∧ PS κ w0 a0 f2.toInt.toNat pb pe b (p0_m_a0_X12_16.toInt - p0_m_a0_X12_13.toInt + 1) (φ + f0.toInt - p0_m_a0_X12_16.toInt) nc ∧ (∀ k : Nat, (k : Int) < f0.toInt → (o k).toInt = 91 → (k : Int) < p0_m_a0_X12_16.toInt) ∧ lv_has ls 2 [(0, .ref a0), (1, .int a1)] ∧ p0_m_a0_X12_16.toInt.toNat = n) → W p l e (headSpec (ws_u yX12_settles cX12_settles 2 none) ({ frames := 1, cells := 0, slots := 0, locals := 22 })).room s m ([.ref a0, .int a1] : List Value).toArray below meth c H locs 0 0 QQ (F0 m 0 ls []) := by
    refine loopT _ ?_
    intro n_0 H locs ls hI ih_0
    obtain ⟨w0, p0_m_a0_X12_13, p0_m_a0_X12_16, hw, hM, l_p0_m_a0_X12_13, h_p0_m_a0_X12_13, l_p0_m_a0_X12_16, h_p0_m_a0_X12_16, f_a0_X12_11, f_a0_X12_13, f_a0_X12_16, li_0_0, li_0_1, hOS, hPS, hIn, hl, hn_0⟩ := hI
    refine lv_aload_n hx hb dX12_settles_0 rfl (lv_at hl 0 rfl) ?_
    refine t_getk (ci := 12) (C := RX12) (T := TX12) (N := 38) hx hb hts iX12 hown hw rfl 16 (by decide) (hts _ tw_1141) (fun _ h9 => h9) dX12_settles_1 f_a0_X12_16 ?_
    refine lv_if_le (tgt := 76) hx hb dX12_settles_4 (by decide) (fun c_4 => ?_) (fun c_4 => ?_)
    · simp only [fa_lt, fa_le, fa_eq, li_0] at c_4
      rw [hQ]
      refine W.widen (k := 0) (n := 0) (Nat.le_refl _) (Nat.le_refl _) ?_
      exact W.vret hx hb hr (fun t ht hW => ⟨⟨w0, rfl, ⟨hw.2.2.2.2, hM, ⟨p0_m_a0_X12_16, p0_m_a0_X12_13, (by omega), (by omega), (by omega), (by omega), f_a0_X12_16, f_a0_X12_13, (by omega), ⟨hOS, hPS, hIn, by omega⟩⟩⟩, by rw [ht]; exact hw.2.1, va_K.moved hW.alike hw.1, hw.2.2.1⟩, hw.2.2.2.1.F ht⟩) hw.2.2.2.1.2.2 dX12_settles_76
    · simp only [fa_lt, fa_le, fa_eq, li_0] at c_4
      refine lv_aload_n hx hb dX12_settles_7 rfl (lv_at hl 0 rfl) ?_
      refine t_getr (k1 := 60) (ci := 12) (C := RX12) (T := TX12) (N := 38) hx hb hts iX12 hown hw k_a0 rfl rfl rfl 15 (by decide) (hts _ tw_1140) (fun _ h9 => h9) dX12_settles_8 rfl (fun v8 k_v8 f_a0_X12_15 => ?_)
      refine lv_aload_n hx hb dX12_settles_11 rfl (lv_at hl 0 rfl) ?_
      refine t_getk (ci := 12) (C := RX12) (T := TX12) (N := 38) hx hb hts iX12 hown hw rfl 16 (by decide) (hts _ tw_1141) (fun _ h9 => h9) dX12_settles_12 f_a0_X12_16 ?_
      refine lv_iconst (v := 1) hx hb dX12_settles_15 (by decide) ?_
      refine lv_isub hx hb dX12_settles_16 ?_
      refine lv_topi (fun v16 e_v16 => ?_)
      have e_v16 : v16.toInt = p0_m_a0_X12_16.toInt - 1 := sb_i e_v16 rfl li_1 (by omega) (by omega)
      refine t_iald hx hb hw k_v8 rfl rfl (by omega) (show v16.toInt < 400 by omega) dX12_settles_17 (fun v17 r_v17 s_v17 q_v17 => ?_)
      have l_v17 := i32_lo v17
      have h_v17 := i32_hi v17
      have hv17 := hOS.at hw.2.2.1 f_a0_X12_15 q_v17
      have ho17 : (o (p0_m_a0_X12_16.toInt - 1).toNat).toInt = v17.toInt := by rw [hv17, show v16.toInt.toNat = (p0_m_a0_X12_16.toInt - 1).toNat by omega]
      have he17 := hOS.el (p0_m_a0_X12_16.toInt - 1).toNat (by omega)
      have hpn := hOS.popn (by omega)
      refine t_calli (va_runS (As := [.int v17]) (rest := []) ⟨hx, hb, hml, hown, hts⟩ (t_X12_strength l dC dI tys κ B w0 hw.2.2.2.2 v17 H.size) (va_cwS 1 hts (gUS tw_1411 tw_1412 tw_13 tw_1413) rfl rfl rfl (by decide +kernel) ⟨(Nat.le_of_ble_eq_true rfl), (Nat.le_of_ble_eq_true rfl)⟩) ⟨cPre.blind, cPre.use hw.2.1 hw.1 hw.2.2.1 hE⟩ rfl rfl hl.1 rfl (lv_room (Nat.le_of_ble_eq_true rfl)) dX12_settles_18 ⟨(Nat.le_of_ble_eq_true rfl), (Nat.le_of_ble_eq_true rfl)⟩) hw hA (fun _ _ h => h.2.2.1) (fun v18 w_1 H locs hp hw => ?_)
      obtain ⟨l_v18, h_v18, _, hm, x_v18_0⟩ := hp
      have hM := hM.trans hm (by decide) (by decide)
      have f_a0_X12_11 := hm.1 _ _ _ _ f_a0_X12_11 (by decide)
      have f_a0_X12_13 := hm.1 _ _ _ _ f_a0_X12_13 (by decide)
      have f_a0_X12_16 := hm.1 _ _ _ _ f_a0_X12_16 (by decide)
      have f_a0_X12_15 := hm.1 _ _ _ _ f_a0_X12_15 (by decide)
      have hPS := hPS.sm hm (by decide) (by decide)
      have hOS := hOS.sm hm (by decide) (by decide)
      refine lv_iload_n hx hb dX12_settles_21 rfl (lv_at hl 1 rfl) ?_
      refine lv_icmp_lt (tgt := 76) hx hb dX12_settles_22 (by decide) (fun c_22 => ?_) (fun c_22 => ?_)
      · simp only [fa_lt, fa_le, fa_eq] at c_22
        rw [hQ]
        refine W.widen (k := 0) (n := 0) (Nat.le_refl _) (Nat.le_refl _) ?_
        exact W.vret hx hb hr (fun t ht hW => ⟨⟨w_1, rfl, ⟨hw.2.2.2.2, hM, ⟨p0_m_a0_X12_16, p0_m_a0_X12_13, (by omega), (by omega), (by omega), (by omega), f_a0_X12_16, f_a0_X12_13, (by omega), ⟨hOS, hPS, hIn, by omega⟩⟩⟩, by rw [ht]; exact hw.2.1, va_K.moved hW.alike hw.1, hw.2.2.1⟩, hw.2.2.2.1.F ht⟩) hw.2.2.2.1.2.2 dX12_settles_76
      · simp only [fa_lt, fa_le, fa_eq] at c_22
        refine lv_aload_n hx hb dX12_settles_25 rfl (lv_at hl 0 rfl) ?_
        refine lv_dup hx hb dX12_settles_26 rfl ?_
        refine t_getk (ci := 12) (C := RX12) (T := TX12) (N := 38) hx hb hts iX12 hown hw rfl 16 (by decide) (hts _ tw_1141) (fun _ h9 => h9) dX12_settles_27 f_a0_X12_16 ?_
        refine lv_iconst (v := 1) hx hb dX12_settles_30 (by decide) ?_
        refine lv_isub hx hb dX12_settles_31 ?_
        refine lv_topi (fun v31 e_v31 => ?_)
        have e_v31 : v31.toInt = p0_m_a0_X12_16.toInt - 1 := sb_i e_v31 rfl li_1 (by omega) (by omega)
        refine t_put (ci := 12) (C := RX12) (T := TX12) (N := 38) (v := .int v31) hx hb hts iX12 tyX12 tyX12_ok nmX12 hown hw k_a0 rfl rfl rfl 16 (by decide) (hts _ tw_1141) (fun _ h9 => h9) rfl (tyX12_ok 16 (by decide)) rfl rfl (okV.int rfl (by omega) (by omega)) dX12_settles_32 (fun w_2 H locs hw u => ?_)
        have hM := hM.up1 u (by decide)
        have f_a0_X12_11 := u.1 _ _ _ _ f_a0_X12_11 (Or.inr (Or.inr (by decide)))
        have f_a0_X12_13 := u.1 _ _ _ _ f_a0_X12_13 (Or.inr (Or.inr (by decide)))
        have f_a0_X12_16 := u.2.2
        have f_a0_X12_15 := u.1 _ _ _ _ f_a0_X12_15 (Or.inr (Or.inr (by decide)))
        have hPS := hPS.sm (Sm.of1 u) (by decide) (by decide)
        have hOS := hOS.sm (Sm.of1 u) (by decide) (by decide)
        refine lv_aload_n hx hb dX12_settles_35 rfl (lv_at hl 0 rfl) ?_
        refine lv_aload_n hx hb dX12_settles_36 rfl (lv_at hl 0 rfl) ?_
        refine t_getk (ci := 12) (C := RX12) (T := TX12) (N := 38) hx hb hts iX12 hown hw rfl 15 (by decide) (hts _ tw_1140) (fun _ h9 => h9) dX12_settles_37 f_a0_X12_15 ?_
        refine lv_aload_n hx hb dX12_settles_40 rfl (lv_at hl 0 rfl) ?_
        refine t_getk (ci := 12) (C := RX12) (T := TX12) (N := 38) hx hb hts iX12 hown hw rfl 16 (by decide) (hts _ tw_1141) (fun _ h9 => h9) dX12_settles_41 f_a0_X12_16 ?_
        refine t_iald hx hb hw k_v8 rfl rfl (by omega) (show v31.toInt < 400 by omega) dX12_settles_44 (fun v44 r_v44 s_v44 q_v44 => ?_)
        have l_v44 := i32_lo v44
        have h_v44 := i32_hi v44
        have hv44 := hOS.at hw.2.2.1 f_a0_X12_15 q_v44
        have he44 : v44.toInt = v17.toInt := by rw [hv44, ← ho17, show v31.toInt.toNat = (p0_m_a0_X12_16.toInt - 1).toNat by omega]
        refine lv_iconst (v := 0) hx hb dX12_settles_45 (by decide) ?_
        refine t_callv (va_runV (As := [.int v44, .int 0]) (rest := []) ⟨hx, hb, hml, hown, hts⟩ (t_X12_puts l dC dI tys κ B w_2 hw.2.2.2.2 a0 k_a0 v44 (by omega) (by omega) 0 (by decide) (by decide) f2 (by omega) (by omega) f_a0_X12_11 hPS (by omega) (by have := li_0; exact ⟨fun _ => by omega, fun _ => by omega, fun _ => by omega, fun _ _ _ => by omega⟩) H.size) (cwV 2 hts (gUV tw_1364 tw_1366 ts_4_9 tw_13 tw_1367) rfl rfl rfl (by decide +kernel) ⟨(Nat.le_of_ble_eq_true rfl), (Nat.le_of_ble_eq_true rfl)⟩) ⟨cPre.blind, t_recv hw (ci := 12) k_a0 rfl rfl, cPre.use hw.2.1 hw.1 hw.2.2.1 hE⟩ rfl rfl hl.1 rfl (lv_room (Nat.le_of_ble_eq_true rfl)) dX12_settles_46 ⟨(Nat.le_of_ble_eq_true rfl), (Nat.le_of_ble_eq_true rfl)⟩) hw hA (fun _ h => h.1) (fun w_3 H locs hp hw => ?_)
        obtain ⟨_, hm, ⟨h9_v46, hPS, hh_v46⟩⟩ := hp
        have zc_0 := li_0
        have hM := hM.trans hm (by decide) (by decide)
        have f_a0_X12_11 := hm.1 _ _ _ _ f_a0_X12_11 (by decide)
        have f_a0_X12_13 := hm.1 _ _ _ _ f_a0_X12_13 (by decide)
        have f_a0_X12_16 := hm.1 _ _ _ _ f_a0_X12_16 (by decide)
        have f_a0_X12_15 := hm.1 _ _ _ _ f_a0_X12_15 (by decide)
        have hOS := hOS.sm hm (by decide) (by decide)
        have hRT := hPS.rt
        refine lv_aload_n hx hb dX12_settles_49 rfl (lv_at hl 0 rfl) ?_
        refine t_getk (ci := 12) (C := RX12) (T := TX12) (N := 38) hx hb hts iX12 hown hw rfl 15 (by decide) (hts _ tw_1140) (fun _ h9 => h9) dX12_settles_50 f_a0_X12_15 ?_
        refine lv_aload_n hx hb dX12_settles_53 rfl (lv_at hl 0 rfl) ?_
        refine t_getk (ci := 12) (C := RX12) (T := TX12) (N := 38) hx hb hts iX12 hown hw rfl 16 (by decide) (hts _ tw_1141) (fun _ h9 => h9) dX12_settles_54 f_a0_X12_16 ?_
        refine t_iald hx hb hw k_v8 rfl rfl (by omega) (show v31.toInt < 400 by omega) dX12_settles_57 (fun v57 r_v57 s_v57 q_v57 => ?_)
        have l_v57 := i32_lo v57
        have h_v57 := i32_hi v57
        have hv57 := hOS.at hw.2.2.1 f_a0_X12_15 q_v57
        have he57 : v57.toInt = v17.toInt := by rw [hv57, ← ho17, show v31.toInt.toNat = (p0_m_a0_X12_16.toInt - 1).toNat by omega]
        refine lv_bipush (v := 11) hx hb dX12_settles_58 (by decide) ?_
        refine lv_icmp_ne (tgt := 0) hx hb dX12_settles_60 (by decide) (fun c_60 => ?_) (fun c_60 => ?_)
        · simp only [fa_lt, fa_le, fa_eq, li_11] at c_60
          exact ih_0 _ _ _ _ (by omega) ⟨w_3, p0_m_a0_X12_13, v31, hw, hM, (by omega), (by omega), (by omega), (by omega), f_a0_X12_11, f_a0_X12_13, f_a0_X12_16, (by omega), (by omega), (hOS.popx (by omega) (by omega) (by omega)), (hPS.to (by omega) (by omega)), (fun k h1 h2 => (Classical.em (k = (p0_m_a0_X12_16.toInt - 1).toNat)).elim (fun hk => by subst hk; omega) (fun hk => by have h3 := hIn k h1 h2; omega)), (lv_sub hl [0, 1] rfl), rfl⟩
        · simp only [fa_lt, fa_le, fa_eq, li_11] at c_60
          refine lv_aload_n hx hb dX12_settles_63 rfl (lv_at hl 0 rfl) ?_
          refine lv_dup hx hb dX12_settles_64 rfl ?_
          refine t_getk (ci := 12) (C := RX12) (T := TX12) (N := 38) hx hb hts iX12 hown hw rfl 13 (by decide) (hts _ tw_1138) (fun _ h9 => h9) dX12_settles_65 f_a0_X12_13 ?_
          refine lv_iconst (v := 1) hx hb dX12_settles_68 (by decide) ?_
          refine lv_isub hx hb dX12_settles_69 ?_
          refine lv_topi (fun v69 e_v69 => ?_)
          have e_v69 : v69.toInt = p0_m_a0_X12_13.toInt - 1 := sb_i e_v69 rfl li_1 (by omega) (by omega)
          refine t_put (ci := 12) (C := RX12) (T := TX12) (N := 38) (v := .int v69) hx hb hts iX12 tyX12 tyX12_ok nmX12 hown hw k_a0 rfl rfl rfl 13 (by decide) (hts _ tw_1138) (fun _ h9 => h9) rfl (tyX12_ok 13 (by decide)) rfl rfl (okV.int rfl (by omega) (by omega)) dX12_settles_70 (fun w_4 H locs hw u => ?_)
          have hM := hM.up1 u (by decide)
          have f_a0_X12_11 := u.1 _ _ _ _ f_a0_X12_11 (Or.inr (Or.inr (by decide)))
          have f_a0_X12_13 := u.2.2
          have f_a0_X12_16 := u.1 _ _ _ _ f_a0_X12_16 (Or.inr (Or.inr (by decide)))
          have f_a0_X12_15 := u.1 _ _ _ _ f_a0_X12_15 (Or.inr (Or.inr (by decide)))
          have hPS := hPS.sm (Sm.of1 u) (by decide) (by decide)
          have hOS := hOS.sm (Sm.of1 u) (by decide) (by decide)
          refine lv_goto (tgt := 0) hx hb dX12_settles_73 (by decide) ?_
          exact ih_0 _ _ _ _ (by omega) ⟨w_4, v69, v31, hw, hM, (by omega), (by omega), (by omega), (by omega), f_a0_X12_11, f_a0_X12_13, f_a0_X12_16, (by omega), (by omega), (hOS.popx (by omega) (by omega) (by omega)), (hPS.to (by omega) (by omega)), (fun k h1 h2 => (Classical.em (k = (p0_m_a0_X12_16.toInt - 1).toNat)).elim (fun hk => by subst hk; omega) (fun hk => by have h3 := hIn k h1 h2; omega)), (lv_sub hl [0, 1] rfl), rfl⟩
  exact J0 _ _ _ _ ⟨ws, f1, f0, hw, hM, (by omega), (by omega), (by omega), (by omega), f_a0_X12_11, f_a0_X12_13, f_a0_X12_16, (by omega), (by omega), hOS, (hPS.to (by omega) (by omega)), (fun _ h _ => h), (lv_sub hl [0, 1] rfl), rfl⟩
