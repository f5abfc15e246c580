theorem ts_3_10 : Cond.selects "BoyBishopModel" ⟨"BoyBishopModel", "passWord", "()V"⟩ ⟨"BoyBishopModel", "passWord", "()V"⟩ ∈ gT := gT_in (List.mem_append_left _ (List.mem_map.mpr ⟨(⟨"BoyBishopModel", "passWord", "()V"⟩, 38), (List.mem_append_right _ (List.mem_append_right _ (List.mem_append_right _ (List.mem_append_left _ (List.mem_of_getElem? (i := 10) rfl))))), rfl⟩)) rfl
theorem ts_3_11 : Cond.selects "BoyBishopModel" ⟨"BoyBishopModel", "cellHere", "(III)Z"⟩ ⟨"BoyBishopModel", "cellHere", "(III)Z"⟩ ∈ gT := gT_in (List.mem_append_left _ (List.mem_map.mpr ⟨(⟨"BoyBishopModel", "cellHere", "(III)Z"⟩, 38), (List.mem_append_right _ (List.mem_append_right _ (List.mem_append_right _ (List.mem_append_left _ (List.mem_of_getElem? (i := 11) rfl))))), rfl⟩)) rfl
theorem ts_3_12 : Cond.selects "BoyBishopModel" ⟨"BoyBishopModel", "numberHere", "(II)Z"⟩ ⟨"BoyBishopModel", "numberHere", "(II)Z"⟩ ∈ gT := gT_in (List.mem_append_left _ (List.mem_map.mpr ⟨(⟨"BoyBishopModel", "numberHere", "(II)Z"⟩, 38), (List.mem_append_right _ (List.mem_append_right _ (List.mem_append_right _ (List.mem_append_left _ (List.mem_of_getElem? (i := 12) rfl))))), rfl⟩)) rfl
theorem ts_3_13 : Cond.selects "BoyBishopModel" ⟨"BoyBishopModel", "isDigit", "(I)Z"⟩ ⟨"BoyBishopModel", "isDigit", "(I)Z"⟩ ∈ gT := gT_in (List.mem_append_left _ (List.mem_map.mpr ⟨(⟨"BoyBishopModel", "isDigit", "(I)Z"⟩, 38), (List.mem_append_right _ (List.mem_append_right _ (List.mem_append_right _ (List.mem_append_left _ (List.mem_of_getElem? (i := 13) rfl))))), rfl⟩)) rfl
theorem ts_3_3 : Cond.selects "BoyBishopModel" ⟨"BoyBishopModel", "see", "()I"⟩ ⟨"BoyBishopModel", "see", "()I"⟩ ∈ gT := gT_in (List.mem_append_left _ (List.mem_map.mpr ⟨(⟨"BoyBishopModel", "see", "()I"⟩, 38), (List.mem_append_right _ (List.mem_append_right _ (List.mem_append_right _ (List.mem_append_left _ (List.mem_of_getElem? (i := 3) rfl))))), rfl⟩)) rfl
theorem ts_3_6 : Cond.selects "BoyBishopModel" ⟨"BoyBishopModel", "isLetter", "(I)Z"⟩ ⟨"BoyBishopModel", "isLetter", "(I)Z"⟩ ∈ gT := gT_in (List.mem_append_left _ (List.mem_map.mpr ⟨(⟨"BoyBishopModel", "isLetter", "(I)Z"⟩, 38), (List.mem_append_right _ (List.mem_append_right _ (List.mem_append_right _ (List.mem_append_left _ (List.mem_of_getElem? (i := 6) rfl))))), rfl⟩)) rfl
theorem ts_3_7 : Cond.selects "BoyBishopModel" ⟨"BoyBishopModel", "fails", "(II)Z"⟩ ⟨"BoyBishopModel", "fails", "(II)Z"⟩ ∈ gT := gT_in (List.mem_append_left _ (List.mem_map.mpr ⟨(⟨"BoyBishopModel", "fails", "(II)Z"⟩, 38), (List.mem_append_right _ (List.mem_append_right _ (List.mem_append_right _ (List.mem_append_left _ (List.mem_of_getElem? (i := 7) rfl))))), rfl⟩)) rfl
theorem tw_1125 : (Jvm.Cond.fieldLink "BoyBishopModel" (7 : Nat) "BoyBishopModel" "tape" "[B") ∈ gT := gT_in (List.mem_append_right _ (List.mem_append_right _ (List.mem_append_right _ (List.mem_append_right _ (List.mem_append_right _ (List.mem_append_left _ (List.mem_of_getElem? (i := 165) rfl))))))) rfl
theorem tw_1126 : (Jvm.Cond.fieldLink "BoyBishopModel" (83 : Nat) "BoyBishopModel" "taped" "I") ∈ gT := gT_in (List.mem_append_right _ (List.mem_append_right _ (List.mem_append_right _ (List.mem_append_right _ (List.mem_append_right _ (List.mem_append_left _ (List.mem_of_getElem? (i := 166) rfl))))))) rfl
theorem tw_1127 : (Jvm.Cond.fieldLink "BoyBishopModel" (271 : Nat) "BoyBishopModel" "rules" "I") ∈ gT := gT_in (List.mem_append_right _ (List.mem_append_right _ (List.mem_append_right _ (List.mem_append_right _ (List.mem_append_right _ (List.mem_append_left _ (List.mem_of_getElem? (i := 167) rfl))))))) rfl
theorem tw_1132 : (Jvm.Cond.fieldLink "BoyBishopModel" (26 : Nat) "BoyBishopModel" "read" "[I") ∈ gT := gT_in (List.mem_append_right _ (List.mem_append_right _ (List.mem_append_right _ (List.mem_append_right _ (List.mem_append_right _ (List.mem_append_left _ (List.mem_of_getElem? (i := 172) rfl))))))) rfl
theorem tw_1133 : (Jvm.Cond.fieldLink "BoyBishopModel" (93 : Nat) "BoyBishopModel" "next" "I") ∈ gT := gT_in (List.mem_append_right _ (List.mem_append_right _ (List.mem_append_right _ (List.mem_append_right _ (List.mem_append_right _ (List.mem_append_left _ (List.mem_of_getElem? (i := 173) rfl))))))) rfl
theorem tw_1134 : (Jvm.Cond.fieldLink "BoyBishopModel" (90 : Nat) "BoyBishopModel" "wrong" "I") ∈ gT := gT_in (List.mem_append_right _ (List.mem_append_right _ (List.mem_append_right _ (List.mem_append_right _ (List.mem_append_right _ (List.mem_append_left _ (List.mem_of_getElem? (i := 174) rfl))))))) rfl
theorem tw_1135 : (Jvm.Cond.fieldLink "BoyBishopModel" (118 : Nat) "BoyBishopModel" "number" "I") ∈ gT := gT_in (List.mem_append_right _ (List.mem_append_right _ (List.mem_append_right _ (List.mem_append_right _ (List.mem_append_right _ (List.mem_append_left _ (List.mem_of_getElem? (i := 175) rfl))))))) rfl
theorem tw_1156 : (Jvm.Cond.fieldLink "BoyBishopModel" (64 : Nat) "BoyBishopModel" "isFit" "[Z") ∈ gT := gT_in (List.mem_append_right _ (List.mem_append_right _ (List.mem_append_right _ (List.mem_append_right _ (List.mem_append_right _ (List.mem_append_left _ (List.mem_of_getElem? (i := 196) rfl))))))) rfl
theorem tw_1157 : (Jvm.Cond.fieldLink "BoyBishopModel" (68 : Nat) "BoyBishopModel" "bishopThen" "[I") ∈ gT := gT_in (List.mem_append_right _ (List.mem_append_right _ (List.mem_append_right _ (List.mem_append_right _ (List.mem_append_right _ (List.mem_append_left _ (List.mem_of_getElem? (i := 197) rfl))))))) rfl
theorem tw_1264 : (Jvm.Cond.methodLink "BoyBishopModel" (96 : Nat) ({ cls := "BoyBishopModel", name := "see", desc := "()I" } : Jvm.MethodName)) ∈ gT := gT_in (List.mem_append_right _ (List.mem_append_right _ (List.mem_append_right _ (List.mem_append_right _ (List.mem_append_right _ (List.mem_append_right _ (List.mem_append_left _ (List.mem_of_getElem? (i := 64) rfl)))))))) rfl
theorem tw_1266 : (Jvm.Cond.instanceMethod ({ cls := "BoyBishopModel", name := "see", desc := "()I" } : Jvm.MethodName)) ∈ gT := gT_in (List.mem_append_right _ (List.mem_append_right _ (List.mem_append_right _ (List.mem_append_right _ (List.mem_append_right _ (List.mem_append_right _ (List.mem_append_left _ (List.mem_of_getElem? (i := 66) rfl)))))))) rfl
theorem tw_1267 : (Jvm.Cond.code ({ cls := "BoyBishopModel", name := "see", desc := "()I" } : Jvm.MethodName) prog_14_method_10_code (1 : Nat) (Option.some Jvm.ClassFile.FieldType.int)) ∈ gT := gT_in (List.mem_append_right _ (List.mem_append_right _ (List.mem_append_right _ (List.mem_append_right _ (List.mem_append_right _ (List.mem_append_right _ (List.mem_append_left _ (List.mem_of_getElem? (i := 67) rfl)))))))) rfl
theorem tw_1277 : (Jvm.Cond.methodLink "BoyBishopModel" (100 : Nat) ({ cls := "BoyBishopModel", name := "isLetter", desc := "(I)Z" } : Jvm.MethodName)) ∈ gT := gT_in (List.mem_append_right _ (List.mem_append_right _ (List.mem_append_right _ (List.mem_append_right _ (List.mem_append_right _ (List.mem_append_right _ (List.mem_append_left _ (List.mem_of_getElem? (i := 77) rfl)))))))) rfl
theorem tw_1279 : (Jvm.Cond.instanceMethod ({ cls := "BoyBishopModel", name := "isLetter", desc := "(I)Z" } : Jvm.MethodName)) ∈ gT := gT_in (List.mem_append_right _ (List.mem_append_right _ (List.mem_append_right _ (List.mem_append_right _ (List.mem_append_right _ (List.mem_append_right _ (List.mem_append_left _ (List.mem_of_getElem? (i := 79) rfl)))))))) rfl
theorem tw_1280 : (Jvm.Cond.code ({ cls := "BoyBishopModel", name := "isLetter", desc := "(I)Z" } : Jvm.MethodName) prog_14_method_12_code (2 : Nat) (Option.some Jvm.ClassFile.FieldType.boolean)) ∈ gT := gT_in (List.mem_append_right _ (List.mem_append_right _ (List.mem_append_right _ (List.mem_append_right _ (List.mem_append_right _ (List.mem_append_right _ (List.mem_append_left _ (List.mem_of_getElem? (i := 80) rfl)))))))) rfl
theorem tw_1288 : (Jvm.Cond.methodLink "BoyBishopModel" (114 : Nat) ({ cls := "BoyBishopModel", name := "fails", desc := "(II)Z" } : Jvm.MethodName)) ∈ gT := gT_in (List.mem_append_right _ (List.mem_append_right _ (List.mem_append_right _ (List.mem_append_right _ (List.mem_append_right _ (List.mem_append_right _ (List.mem_append_left _ (List.mem_of_getElem? (i := 88) rfl)))))))) rfl
theorem tw_1290 : (Jvm.Cond.instanceMethod ({ cls := "BoyBishopModel", name := "fails", desc := "(II)Z" } : Jvm.MethodName)) ∈ gT := gT_in (List.mem_append_right _ (List.mem_append_right _ (List.mem_append_right _ (List.mem_append_right _ (List.mem_append_right _ (List.mem_append_right _ (List.mem_append_left _ (List.mem_of_getElem? (i := 90) rfl)))))))) rfl
theorem tw_1291 : (Jvm.Cond.code ({ cls := "BoyBishopModel", name := "fails", desc := "(II)Z" } : Jvm.MethodName) prog_14_method_9_code (3 : Nat) (Option.some Jvm.ClassFile.FieldType.boolean)) ∈ gT := gT_in (List.mem_append_right _ (List.mem_append_right _ (List.mem_append_right _ (List.mem_append_right _ (List.mem_append_right _ (List.mem_append_right _ (List.mem_append_left _ (List.mem_of_getElem? (i := 91) rfl)))))))) rfl
theorem tw_1300 : (Jvm.Cond.methodLink "BoyBishopModel" (108 : Nat) ({ cls := "BoyBishopModel", name := "passWord", desc := "()V" } : Jvm.MethodName)) ∈ gT := gT_in (List.mem_append_right _ (List.mem_append_right _ (List.mem_append_right _ (List.mem_append_right _ (List.mem_append_right _ (List.mem_append_right _ (List.mem_append_left _ (List.mem_of_getElem? (i := 100) rfl)))))))) rfl
theorem tw_1302 : (Jvm.Cond.instanceMethod ({ cls := "BoyBishopModel", name := "passWord", desc := "()V" } : Jvm.MethodName)) ∈ gT := gT_in (List.mem_append_right _ (List.mem_append_right _ (List.mem_append_right _ (List.mem_append_right _ (List.mem_append_right _ (List.mem_append_right _ (List.mem_append_left _ (List.mem_of_getElem? (i := 102) rfl)))))))) rfl
theorem tw_1303 : (Jvm.Cond.code ({ cls := "BoyBishopModel", name := "passWord", desc := "()V" } : Jvm.MethodName) prog_14_method_14_code (1 : Nat) (Option.none : Option Jvm.ClassFile.FieldType)) ∈ gT := gT_in (List.mem_append_right _ (List.mem_append_right _ (List.mem_append_right _ (List.mem_append_right _ (List.mem_append_right _ (List.mem_append_right _ (List.mem_append_left _ (List.mem_of_getElem? (i := 103) rfl)))))))) rfl
theorem tw_1304 : (Jvm.Cond.methodLink "BoyBishopModel" (219 : Nat) ({ cls := "BoyBishopModel", name := "cellHere", desc := "(III)Z" } : Jvm.MethodName)) ∈ gT := gT_in (List.mem_append_right _ (List.mem_append_right _ (List.mem_append_right _ (List.mem_append_right _ (List.mem_append_right _ (List.mem_append_right _ (List.mem_append_left _ (List.mem_of_getElem? (i := 104) rfl)))))))) rfl
theorem tw_1306 : (Jvm.Cond.instanceMethod ({ cls := "BoyBishopModel", name := "cellHere", desc := "(III)Z" } : Jvm.MethodName)) ∈ gT := gT_in (List.mem_append_right _ (List.mem_append_right _ (List.mem_append_right _ (List.mem_append_right _ (List.mem_append_right _ (List.mem_append_right _ (List.mem_append_left _ (List.mem_of_getElem? (i := 106) rfl)))))))) rfl
theorem tw_1307 : (Jvm.Cond.code ({ cls := "BoyBishopModel", name := "cellHere", desc := "(III)Z" } : Jvm.MethodName) prog_14_method_32_code (4 : Nat) (Option.some Jvm.ClassFile.FieldType.boolean)) ∈ gT := gT_in (List.mem_append_right _ (List.mem_append_right _ (List.mem_append_right _ (List.mem_append_right _ (List.mem_append_right _ (List.mem_append_right _ (List.mem_append_left _ (List.mem_of_getElem? (i := 107) rfl)))))))) rfl
theorem tw_1308 : (Jvm.Cond.methodLink "BoyBishopModel" (168 : Nat) ({ cls := "BoyBishopModel", name := "numberHere", desc := "(II)Z" } : Jvm.MethodName)) ∈ gT := gT_in (List.mem_append_right _ (List.mem_append_right _ (List.mem_append_right _ (List.mem_append_right _ (List.mem_append_right _ (List.mem_append_right _ (List.mem_append_left _ (List.mem_of_getElem? (i := 108) rfl)))))))) rfl
theorem tw_1310 : (Jvm.Cond.instanceMethod ({ cls := "BoyBishopModel", name := "numberHere", desc := "(II)Z" } : Jvm.MethodName)) ∈ gT := gT_in (List.mem_append_right _ (List.mem_append_right _ (List.mem_append_right _ (List.mem_append_right _ (List.mem_append_right _ (List.mem_append_right _ (List.mem_append_left _ (List.mem_of_getElem? (i := 110) rfl)))))))) rfl
theorem tw_1311 : (Jvm.Cond.code ({ cls := "BoyBishopModel", name := "numberHere", desc := "(II)Z" } : Jvm.MethodName) prog_14_method_16_code (5 : Nat) (Option.some Jvm.ClassFile.FieldType.boolean)) ∈ gT := gT_in (List.mem_append_right _ (List.mem_append_right _ (List.mem_append_right _ (List.mem_append_right _ (List.mem_append_right _ (List.mem_append_right _ (List.mem_append_left _ (List.mem_of_getElem? (i := 111) rfl)))))))) rfl
theorem tw_1312 : (Jvm.Cond.methodLink "BoyBishopModel" (111 : Nat) ({ cls := "BoyBishopModel", name := "isDigit", desc := "(I)Z" } : Jvm.MethodName)) ∈ gT := gT_in (List.mem_append_right _ (List.mem_append_right _ (List.mem_append_right _ (List.mem_append_right _ (List.mem_append_right _ (List.mem_append_right _ (List.mem_append_left _ (List.mem_of_getElem? (i := 112) rfl)))))))) rfl
theorem tw_1314 : (Jvm.Cond.instanceMethod ({ cls := "BoyBishopModel", name := "isDigit", desc := "(I)Z" } : Jvm.MethodName)) ∈ gT := gT_in (List.mem_append_right _ (List.mem_append_right _ (List.mem_append_right _ (List.mem_append_right _ (List.mem_append_right _ (List.mem_append_right _ (List.mem_append_left _ (List.mem_of_getElem? (i := 114) rfl)))))))) rfl
theorem tw_1315 : (Jvm.Cond.code ({ cls := "BoyBishopModel", name := "isDigit", desc := "(I)Z" } : Jvm.MethodName) prog_14_method_11_code (2 : Nat) (Option.some Jvm.ClassFile.FieldType.boolean)) ∈ gT := gT_in (List.mem_append_right _ (List.mem_append_right _ (List.mem_append_right _ (List.mem_append_right _ (List.mem_append_right _ (List.mem_append_right _ (List.mem_append_left _ (List.mem_of_getElem? (i := 115) rfl)))))))) rfl
theorem tw_1712 : (Jvm.Cond.methodLink "BoyBishopModel" (447 : Nat) ({ cls := "BoyBishopModel", name := "spot", desc := "(II)I" } : Jvm.MethodName)) ∈ gT := gT_in (List.mem_append_right _ (List.mem_append_right _ (List.mem_append_right _ (List.mem_append_right _ (List.mem_append_right _ (List.mem_append_right _ (List.mem_append_right _ (List.mem_append_right _ (List.mem_of_getElem? (i := 32) rfl))))))))) rfl
theorem tw_1713 : (Jvm.Cond.static ({ cls := "BoyBishopModel", name := "spot", desc := "(II)I" } : Jvm.MethodName)) ∈ gT := gT_in (List.mem_append_right _ (List.mem_append_right _ (List.mem_append_right _ (List.mem_append_right _ (List.mem_append_right _ (List.mem_append_right _ (List.mem_append_right _ (List.mem_append_right _ (List.mem_of_getElem? (i := 33) rfl))))))))) rfl
theorem tw_1714 : (Jvm.Cond.code ({ cls := "BoyBishopModel", name := "spot", desc := "(II)I" } : Jvm.MethodName) prog_14_method_113_code (2 : Nat) (Option.some Jvm.ClassFile.FieldType.int)) ∈ gT := gT_in (List.mem_append_right _ (List.mem_append_right _ (List.mem_append_right _ (List.mem_append_right _ (List.mem_append_right _ (List.mem_append_right _ (List.mem_append_right _ (List.mem_append_right _ (List.mem_of_getElem? (i := 34) rfl))))))))) rfl
theorem dX12_alikeAt_0 : decode cX12_alikeAt 0 = .ok (.iconst 0, 1) := by decide +kernel
theorem dX12_alikeAt_1 : decode cX12_alikeAt 1 = .ok (.istore_n 2, 1) := by decide +kernel
theorem dX12_alikeAt_2 : decode cX12_alikeAt 2 = .ok (.iconst 0, 1) := by decide +kernel
theorem dX12_alikeAt_3 : decode cX12_alikeAt 3 = .ok (.istore_n 3, 1) := by decide +kernel
theorem dX12_alikeAt_4 : decode cX12_alikeAt 4 = .ok (.iload_n 3, 1) := by decide +kernel
theorem dX12_alikeAt_5 : decode cX12_alikeAt 5 = .ok (.aload_n 0, 1) := by decide +kernel
theorem dX12_alikeAt_6 : decode cX12_alikeAt 6 = .ok (.getfield 271, 3) := by decide +kernel
theorem dX12_alikeAt_9 : decode cX12_alikeAt 9 = .ok (.if_icmp .gt 96, 3) := by decide +kernel
theorem dX12_alikeAt_12 : decode cX12_alikeAt 12 = .ok (.iconst 0, 1) := by decide +kernel
theorem dX12_alikeAt_13 : decode cX12_alikeAt 13 = .ok (.istore 4, 2) := by decide +kernel
theorem dX12_alikeAt_15 : decode cX12_alikeAt 15 = .ok (.iconst 0, 1) := by decide +kernel
theorem dX12_alikeAt_16 : decode cX12_alikeAt 16 = .ok (.istore 5, 2) := by decide +kernel
theorem dX12_alikeAt_18 : decode cX12_alikeAt 18 = .ok (.iload 5, 2) := by decide +kernel
theorem dX12_alikeAt_20 : decode cX12_alikeAt 20 = .ok (.aload_n 0, 1) := by decide +kernel
theorem dX12_alikeAt_21 : decode cX12_alikeAt 21 = .ok (.getfield 271, 3) := by decide +kernel
theorem dX12_alikeAt_24 : decode cX12_alikeAt 24 = .ok (.if_icmp .gt 62, 3) := by decide +kernel
theorem dX12_alikeAt_27 : decode cX12_alikeAt 27 = .ok (.aload_n 0, 1) := by decide +kernel
theorem dX12_alikeAt_28 : decode cX12_alikeAt 28 = .ok (.getfield 64, 3) := by decide +kernel
theorem dX12_alikeAt_31 : decode cX12_alikeAt 31 = .ok (.iload_n 3, 1) := by decide +kernel
theorem dX12_alikeAt_32 : decode cX12_alikeAt 32 = .ok (.baload, 1) := by decide +kernel
theorem dX12_alikeAt_33 : decode cX12_alikeAt 33 = .ok (.ifCond .eq 53, 3) := by decide +kernel
theorem dX12_alikeAt_36 : decode cX12_alikeAt 36 = .ok (.iload 4, 2) := by decide +kernel
theorem dX12_alikeAt_38 : decode cX12_alikeAt 38 = .ok (.aload_n 0, 1) := by decide +kernel
theorem dX12_alikeAt_39 : decode cX12_alikeAt 39 = .ok (.getfield 64, 3) := by decide +kernel
theorem dX12_alikeAt_42 : decode cX12_alikeAt 42 = .ok (.iload 5, 2) := by decide +kernel
theorem dX12_alikeAt_44 : decode cX12_alikeAt 44 = .ok (.baload, 1) := by decide +kernel
theorem dX12_alikeAt_45 : decode cX12_alikeAt 45 = .ok (.ifCond .eq 31, 3) := by decide +kernel
theorem dX12_alikeAt_48 : decode cX12_alikeAt 48 = .ok (.aload_n 0, 1) := by decide +kernel
theorem dX12_alikeAt_49 : decode cX12_alikeAt 49 = .ok (.getfield 68, 3) := by decide +kernel
theorem dX12_alikeAt_52 : decode cX12_alikeAt 52 = .ok (.iload_n 3, 1) := by decide +kernel
theorem dX12_alikeAt_53 : decode cX12_alikeAt 53 = .ok (.iload_n 1, 1) := by decide +kernel
theorem dX12_alikeAt_54 : decode cX12_alikeAt 54 = .ok (.invokestatic 447, 3) := by decide +kernel
theorem dX12_alikeAt_57 : decode cX12_alikeAt 57 = .ok (.iaload, 1) := by decide +kernel
theorem dX12_alikeAt_58 : decode cX12_alikeAt 58 = .ok (.aload_n 0, 1) := by decide +kernel
theorem dX12_alikeAt_59 : decode cX12_alikeAt 59 = .ok (.getfield 68, 3) := by decide +kernel
theorem dX12_alikeAt_62 : decode cX12_alikeAt 62 = .ok (.iload 5, 2) := by decide +kernel
theorem dX12_alikeAt_64 : decode cX12_alikeAt 64 = .ok (.iload_n 1, 1) := by decide +kernel
theorem dX12_alikeAt_65 : decode cX12_alikeAt 65 = .ok (.invokestatic 447, 3) := by decide +kernel
theorem dX12_alikeAt_68 : decode cX12_alikeAt 68 = .ok (.iaload, 1) := by decide +kernel
theorem dX12_alikeAt_69 : decode cX12_alikeAt 69 = .ok (.if_icmp .ne 7, 3) := by decide +kernel
theorem dX12_alikeAt_72 : decode cX12_alikeAt 72 = .ok (.iconst 1, 1) := by decide +kernel
theorem dX12_alikeAt_73 : decode cX12_alikeAt 73 = .ok (.goto 4, 3) := by decide +kernel
theorem dX12_alikeAt_76 : decode cX12_alikeAt 76 = .ok (.iconst 0, 1) := by decide +kernel
theorem dX12_alikeAt_77 : decode cX12_alikeAt 77 = .ok (.iadd, 1) := by decide +kernel
theorem dX12_alikeAt_78 : decode cX12_alikeAt 78 = .ok (.istore 4, 2) := by decide +kernel
theorem dX12_alikeAt_80 : decode cX12_alikeAt 80 = .ok (.iinc 5 1, 3) := by decide +kernel
theorem dX12_alikeAt_83 : decode cX12_alikeAt 83 = .ok (.goto (-65), 3) := by decide +kernel
theorem dX12_alikeAt_86 : decode cX12_alikeAt 86 = .ok (.iload 4, 2) := by decide +kernel
theorem dX12_alikeAt_88 : decode cX12_alikeAt 88 = .ok (.iload_n 2, 1) := by decide +kernel
theorem dX12_alikeAt_89 : decode cX12_alikeAt 89 = .ok (.if_icmp .le 8, 3) := by decide +kernel
theorem dX12_alikeAt_92 : decode cX12_alikeAt 92 = .ok (.iload 4, 2) := by decide +kernel
theorem dX12_alikeAt_94 : decode cX12_alikeAt 94 = .ok (.goto 4, 3) := by decide +kernel
theorem dX12_alikeAt_97 : decode cX12_alikeAt 97 = .ok (.iload_n 2, 1) := by decide +kernel
theorem dX12_alikeAt_98 : decode cX12_alikeAt 98 = .ok (.istore_n 2, 1) := by decide +kernel
theorem dX12_alikeAt_99 : decode cX12_alikeAt 99 = .ok (.iinc 3 1, 3) := by decide +kernel
theorem dX12_alikeAt_102 : decode cX12_alikeAt 102 = .ok (.goto (-98), 3) := by decide +kernel
theorem dX12_alikeAt_105 : decode cX12_alikeAt 105 = .ok (.iload_n 2, 1) := by decide +kernel
theorem dX12_alikeAt_106 : decode cX12_alikeAt 106 = .ok (.ireturn, 1) := by decide +kernel
theorem dX12_areLikesHere_0 : decode cX12_areLikesHere 0 = .ok (.aload_n 0, 1) := by decide +kernel
theorem dX12_areLikesHere_1 : decode cX12_areLikesHere 1 = .ok (.invokevirtual 108, 3) := by decide +kernel
theorem dX12_areLikesHere_4 : decode cX12_areLikesHere 4 = .ok (.aload_n 0, 1) := by decide +kernel
theorem dX12_areLikesHere_5 : decode cX12_areLikesHere 5 = .ok (.iconst 0, 1) := by decide +kernel
theorem dX12_areLikesHere_6 : decode cX12_areLikesHere 6 = .ok (.aload_n 0, 1) := by decide +kernel
theorem dX12_areLikesHere_7 : decode cX12_areLikesHere 7 = .ok (.getfield 26, 3) := by decide +kernel
theorem dX12_areLikesHere_10 : decode cX12_areLikesHere 10 = .ok (.iconst 3, 1) := by decide +kernel
theorem dX12_areLikesHere_11 : decode cX12_areLikesHere 11 = .ok (.iaload, 1) := by decide +kernel
theorem dX12_areLikesHere_12 : decode cX12_areLikesHere 12 = .ok (.iconst 1, 1) := by decide +kernel
theorem dX12_areLikesHere_13 : decode cX12_areLikesHere 13 = .ok (.isub, 1) := by decide +kernel
theorem dX12_areLikesHere_14 : decode cX12_areLikesHere 14 = .ok (.invokevirtual 168, 3) := by decide +kernel
theorem dX12_areLikesHere_17 : decode cX12_areLikesHere 17 = .ok (.ifCond .ne 5, 3) := by decide +kernel
theorem dX12_areLikesHere_20 : decode cX12_areLikesHere 20 = .ok (.iconst 0, 1) := by decide +kernel
theorem dX12_areLikesHere_21 : decode cX12_areLikesHere 21 = .ok (.ireturn, 1) := by decide +kernel
theorem dX12_areLikesHere_22 : decode cX12_areLikesHere 22 = .ok (.bipush 6, 2) := by decide +kernel
theorem dX12_areLikesHere_24 : decode cX12_areLikesHere 24 = .ok (.aload_n 0, 1) := by decide +kernel
theorem dX12_areLikesHere_25 : decode cX12_areLikesHere 25 = .ok (.getfield 118, 3) := by decide +kernel
theorem dX12_areLikesHere_28 : decode cX12_areLikesHere 28 = .ok (.imul, 1) := by decide +kernel
theorem dX12_areLikesHere_29 : decode cX12_areLikesHere 29 = .ok (.istore_n 1, 1) := by decide +kernel
theorem dX12_areLikesHere_30 : decode cX12_areLikesHere 30 = .ok (.aload_n 0, 1) := by decide +kernel
theorem dX12_areLikesHere_31 : decode cX12_areLikesHere 31 = .ok (.iconst 0, 1) := by decide +kernel
theorem dX12_areLikesHere_32 : decode cX12_areLikesHere 32 = .ok (.aload_n 0, 1) := by decide +kernel
theorem dX12_areLikesHere_33 : decode cX12_areLikesHere 33 = .ok (.getfield 26, 3) := by decide +kernel
theorem dX12_areLikesHere_36 : decode cX12_areLikesHere 36 = .ok (.iconst 3, 1) := by decide +kernel
theorem dX12_areLikesHere_37 : decode cX12_areLikesHere 37 = .ok (.iaload, 1) := by decide +kernel
theorem dX12_areLikesHere_38 : decode cX12_areLikesHere 38 = .ok (.iconst 1, 1) := by decide +kernel
theorem dX12_areLikesHere_39 : decode cX12_areLikesHere 39 = .ok (.isub, 1) := by decide +kernel
theorem dX12_areLikesHere_40 : decode cX12_areLikesHere 40 = .ok (.invokevirtual 168, 3) := by decide +kernel
theorem dX12_areLikesHere_43 : decode cX12_areLikesHere 43 = .ok (.ifCond .ne 5, 3) := by decide +kernel
theorem dX12_areLikesHere_46 : decode cX12_areLikesHere 46 = .ok (.iconst 0, 1) := by decide +kernel
theorem dX12_areLikesHere_47 : decode cX12_areLikesHere 47 = .ok (.ireturn, 1) := by decide +kernel
theorem dX12_areLikesHere_48 : decode cX12_areLikesHere 48 = .ok (.aload_n 0, 1) := by decide +kernel
theorem dX12_areLikesHere_49 : decode cX12_areLikesHere 49 = .ok (.bipush 70, 2) := by decide +kernel
theorem dX12_areLikesHere_51 : decode cX12_areLikesHere 51 = .ok (.iload_n 1, 1) := by decide +kernel
theorem dX12_areLikesHere_52 : decode cX12_areLikesHere 52 = .ok (.iadd, 1) := by decide +kernel
theorem dX12_areLikesHere_53 : decode cX12_areLikesHere 53 = .ok (.aload_n 0, 1) := by decide +kernel
theorem dX12_areLikesHere_54 : decode cX12_areLikesHere 54 = .ok (.getfield 118, 3) := by decide +kernel
theorem dX12_areLikesHere_57 : decode cX12_areLikesHere 57 = .ok (.iadd, 1) := by decide +kernel
theorem dX12_areLikesHere_58 : decode cX12_areLikesHere 58 = .ok (.iconst 0, 1) := by decide +kernel
theorem dX12_areLikesHere_59 : decode cX12_areLikesHere 59 = .ok (.bipush 20, 2) := by decide +kernel
theorem dX12_areLikesHere_61 : decode cX12_areLikesHere 61 = .ok (.invokevirtual 219, 3) := by decide +kernel
theorem dX12_areLikesHere_64 : decode cX12_areLikesHere 64 = .ok (.ireturn, 1) := by decide +kernel
theorem dX12_cellHere_0 : decode cX12_cellHere 0 = .ok (.aload_n 0, 1) := by decide +kernel
theorem dX12_cellHere_1 : decode cX12_cellHere 1 = .ok (.iload_n 2, 1) := by decide +kernel
theorem dX12_cellHere_2 : decode cX12_cellHere 2 = .ok (.iload_n 3, 1) := by decide +kernel
theorem dX12_cellHere_3 : decode cX12_cellHere 3 = .ok (.invokevirtual 168, 3) := by decide +kernel
theorem dX12_cellHere_6 : decode cX12_cellHere 6 = .ok (.ifCond .ne 5, 3) := by decide +kernel
theorem dX12_cellHere_9 : decode cX12_cellHere 9 = .ok (.iconst 0, 1) := by decide +kernel
theorem dX12_cellHere_10 : decode cX12_cellHere 10 = .ok (.ireturn, 1) := by decide +kernel
theorem dX12_cellHere_11 : decode cX12_cellHere 11 = .ok (.aload_n 0, 1) := by decide +kernel
theorem dX12_cellHere_12 : decode cX12_cellHere 12 = .ok (.getfield 26, 3) := by decide +kernel
theorem dX12_cellHere_15 : decode cX12_cellHere 15 = .ok (.iload_n 1, 1) := by decide +kernel
theorem dX12_cellHere_16 : decode cX12_cellHere 16 = .ok (.aload_n 0, 1) := by decide +kernel
theorem dX12_cellHere_17 : decode cX12_cellHere 17 = .ok (.getfield 118, 3) := by decide +kernel
theorem dX12_cellHere_20 : decode cX12_cellHere 20 = .ok (.iastore, 1) := by decide +kernel
theorem dX12_cellHere_21 : decode cX12_cellHere 21 = .ok (.iconst 1, 1) := by decide +kernel
theorem dX12_cellHere_22 : decode cX12_cellHere 22 = .ok (.ireturn, 1) := by decide +kernel
theorem dX12_fails_0 : decode cX12_fails 0 = .ok (.aload_n 0, 1) := by decide +kernel
theorem dX12_fails_1 : decode cX12_fails 1 = .ok (.getfield 90, 3) := by decide +kernel
theorem dX12_fails_4 : decode cX12_fails 4 = .ok (.ifCond .ne 15, 3) := by decide +kernel
theorem dX12_fails_7 : decode cX12_fails 7 = .ok (.aload_n 0, 1) := by decide +kernel
theorem dX12_fails_8 : decode cX12_fails 8 = .ok (.iconst 1, 1) := by decide +kernel
theorem dX12_fails_9 : decode cX12_fails 9 = .ok (.bipush 8, 2) := by decide +kernel
theorem dX12_fails_11 : decode cX12_fails 11 = .ok (.iload_n 2, 1) := by decide +kernel
theorem dX12_fails_12 : decode cX12_fails 12 = .ok (.imul, 1) := by decide +kernel
theorem dX12_fails_13 : decode cX12_fails 13 = .ok (.iadd, 1) := by decide +kernel
theorem dX12_fails_14 : decode cX12_fails 14 = .ok (.iload_n 1, 1) := by decide +kernel
theorem dX12_fails_15 : decode cX12_fails 15 = .ok (.iadd, 1) := by decide +kernel
theorem dX12_fails_16 : decode cX12_fails 16 = .ok (.putfield 90, 3) := by decide +kernel
theorem dX12_fails_19 : decode cX12_fails 19 = .ok (.iconst 0, 1) := by decide +kernel
theorem dX12_fails_20 : decode cX12_fails 20 = .ok (.ireturn, 1) := by decide +kernel
theorem dX12_isDigit_0 : decode cX12_isDigit 0 = .ok (.iload_n 1, 1) := by decide +kernel
theorem dX12_isDigit_1 : decode cX12_isDigit 1 = .ok (.aload_n 0, 1) := by decide +kernel
theorem dX12_isDigit_2 : decode cX12_isDigit 2 = .ok (.getfield 83, 3) := by decide +kernel
theorem dX12_isDigit_5 : decode cX12_isDigit 5 = .ok (.if_icmp .ge 29, 3) := by decide +kernel
theorem dX12_isDigit_8 : decode cX12_isDigit 8 = .ok (.aload_n 0, 1) := by decide +kernel
theorem dX12_isDigit_9 : decode cX12_isDigit 9 = .ok (.getfield 7, 3) := by decide +kernel
theorem dX12_isDigit_12 : decode cX12_isDigit 12 = .ok (.iload_n 1, 1) := by decide +kernel
theorem dX12_isDigit_13 : decode cX12_isDigit 13 = .ok (.baload, 1) := by decide +kernel
theorem dX12_isDigit_14 : decode cX12_isDigit 14 = .ok (.bipush 48, 2) := by decide +kernel
theorem dX12_isDigit_16 : decode cX12_isDigit 16 = .ok (.if_icmp .lt 18, 3) := by decide +kernel
theorem dX12_isDigit_19 : decode cX12_isDigit 19 = .ok (.aload_n 0, 1) := by decide +kernel
theorem dX12_isDigit_20 : decode cX12_isDigit 20 = .ok (.getfield 7, 3) := by decide +kernel
theorem dX12_isDigit_23 : decode cX12_isDigit 23 = .ok (.iload_n 1, 1) := by decide +kernel
theorem dX12_isDigit_24 : decode cX12_isDigit 24 = .ok (.baload, 1) := by decide +kernel
theorem dX12_isDigit_25 : decode cX12_isDigit 25 = .ok (.bipush 57, 2) := by decide +kernel
theorem dX12_isDigit_27 : decode cX12_isDigit 27 = .ok (.if_icmp .gt 7, 3) := by decide +kernel
theorem dX12_isDigit_30 : decode cX12_isDigit 30 = .ok (.iconst 1, 1) := by decide +kernel
theorem dX12_isDigit_31 : decode cX12_isDigit 31 = .ok (.goto 4, 3) := by decide +kernel
theorem dX12_isDigit_34 : decode cX12_isDigit 34 = .ok (.iconst 0, 1) := by decide +kernel
theorem dX12_isDigit_35 : decode cX12_isDigit 35 = .ok (.ireturn, 1) := by decide +kernel
theorem dX12_isLetter_0 : decode cX12_isLetter 0 = .ok (.iload_n 1, 1) := by decide +kernel
theorem dX12_isLetter_1 : decode cX12_isLetter 1 = .ok (.aload_n 0, 1) := by decide +kernel
theorem dX12_isLetter_2 : decode cX12_isLetter 2 = .ok (.getfield 83, 3) := by decide +kernel
theorem dX12_isLetter_5 : decode cX12_isLetter 5 = .ok (.if_icmp .ge 29, 3) := by decide +kernel
theorem dX12_isLetter_8 : decode cX12_isLetter 8 = .ok (.aload_n 0, 1) := by decide +kernel
theorem dX12_isLetter_9 : decode cX12_isLetter 9 = .ok (.getfield 7, 3) := by decide +kernel
theorem dX12_isLetter_12 : decode cX12_isLetter 12 = .ok (.iload_n 1, 1) := by decide +kernel
theorem dX12_isLetter_13 : decode cX12_isLetter 13 = .ok (.baload, 1) := by decide +kernel
theorem dX12_isLetter_14 : decode cX12_isLetter 14 = .ok (.bipush 97, 2) := by decide +kernel
theorem dX12_isLetter_16 : decode cX12_isLetter 16 = .ok (.if_icmp .lt 18, 3) := by decide +kernel
theorem dX12_isLetter_19 : decode cX12_isLetter 19 = .ok (.aload_n 0, 1) := by decide +kernel
theorem dX12_isLetter_20 : decode cX12_isLetter 20 = .ok (.getfield 7, 3) := by decide +kernel
theorem dX12_isLetter_23 : decode cX12_isLetter 23 = .ok (.iload_n 1, 1) := by decide +kernel
theorem dX12_isLetter_24 : decode cX12_isLetter 24 = .ok (.baload, 1) := by decide +kernel
theorem dX12_isLetter_25 : decode cX12_isLetter 25 = .ok (.bipush 122, 2) := by decide +kernel
theorem dX12_isLetter_27 : decode cX12_isLetter 27 = .ok (.if_icmp .gt 7, 3) := by decide +kernel
theorem dX12_isLetter_30 : decode cX12_isLetter 30 = .ok (.iconst 1, 1) := by decide +kernel
theorem dX12_isLetter_31 : decode cX12_isLetter 31 = .ok (.goto 4, 3) := by decide +kernel
theorem dX12_isLetter_34 : decode cX12_isLetter 34 = .ok (.iconst 0, 1) := by decide +kernel
theorem dX12_isLetter_35 : decode cX12_isLetter 35 = .ok (.ireturn, 1) := by decide +kernel
theorem dX12_numberHere_0 : decode cX12_numberHere 0 = .ok (.aload_n 0, 1) := by decide +kernel
theorem dX12_numberHere_1 : decode cX12_numberHere 1 = .ok (.invokevirtual 96, 3) := by decide +kernel
theorem dX12_numberHere_4 : decode cX12_numberHere 4 = .ok (.pop, 1) := by decide +kernel
theorem dX12_numberHere_5 : decode cX12_numberHere 5 = .ok (.aload_n 0, 1) := by decide +kernel
theorem dX12_numberHere_6 : decode cX12_numberHere 6 = .ok (.aload_n 0, 1) := by decide +kernel
theorem dX12_numberHere_7 : decode cX12_numberHere 7 = .ok (.getfield 93, 3) := by decide +kernel
theorem dX12_numberHere_10 : decode cX12_numberHere 10 = .ok (.invokevirtual 111, 3) := by decide +kernel
theorem dX12_numberHere_13 : decode cX12_numberHere 13 = .ok (.ifCond .ne 13, 3) := by decide +kernel
theorem dX12_numberHere_16 : decode cX12_numberHere 16 = .ok (.aload_n 0, 1) := by decide +kernel
theorem dX12_numberHere_17 : decode cX12_numberHere 17 = .ok (.iconst 0, 1) := by decide +kernel
theorem dX12_numberHere_18 : decode cX12_numberHere 18 = .ok (.aload_n 0, 1) := by decide +kernel
theorem dX12_numberHere_19 : decode cX12_numberHere 19 = .ok (.getfield 93, 3) := by decide +kernel
theorem dX12_numberHere_22 : decode cX12_numberHere 22 = .ok (.invokevirtual 114, 3) := by decide +kernel
theorem dX12_numberHere_25 : decode cX12_numberHere 25 = .ok (.ireturn, 1) := by decide +kernel
theorem dX12_numberHere_26 : decode cX12_numberHere 26 = .ok (.aload_n 0, 1) := by decide +kernel
theorem dX12_numberHere_27 : decode cX12_numberHere 27 = .ok (.getfield 93, 3) := by decide +kernel
theorem dX12_numberHere_30 : decode cX12_numberHere 30 = .ok (.istore_n 3, 1) := by decide +kernel
theorem dX12_numberHere_31 : decode cX12_numberHere 31 = .ok (.iconst 0, 1) := by decide +kernel
theorem dX12_numberHere_32 : decode cX12_numberHere 32 = .ok (.istore 4, 2) := by decide +kernel
theorem dX12_numberHere_34 : decode cX12_numberHere 34 = .ok (.aload_n 0, 1) := by decide +kernel
theorem dX12_numberHere_35 : decode cX12_numberHere 35 = .ok (.aload_n 0, 1) := by decide +kernel
theorem dX12_numberHere_36 : decode cX12_numberHere 36 = .ok (.getfield 93, 3) := by decide +kernel
theorem dX12_numberHere_39 : decode cX12_numberHere 39 = .ok (.invokevirtual 111, 3) := by decide +kernel
theorem dX12_numberHere_42 : decode cX12_numberHere 42 = .ok (.ifCond .eq 46, 3) := by decide +kernel
theorem dX12_numberHere_45 : decode cX12_numberHere 45 = .ok (.aload_n 0, 1) := by decide +kernel
theorem dX12_numberHere_46 : decode cX12_numberHere 46 = .ok (.getfield 93, 3) := by decide +kernel
theorem dX12_numberHere_49 : decode cX12_numberHere 49 = .ok (.iload_n 3, 1) := by decide +kernel
theorem dX12_numberHere_50 : decode cX12_numberHere 50 = .ok (.isub, 1) := by decide +kernel
theorem dX12_numberHere_51 : decode cX12_numberHere 51 = .ok (.iconst 5, 1) := by decide +kernel
theorem dX12_numberHere_52 : decode cX12_numberHere 52 = .ok (.if_icmp .ge 23, 3) := by decide +kernel
theorem dX12_numberHere_55 : decode cX12_numberHere 55 = .ok (.bipush 10, 2) := by decide +kernel
theorem dX12_numberHere_57 : decode cX12_numberHere 57 = .ok (.iload 4, 2) := by decide +kernel
theorem dX12_numberHere_59 : decode cX12_numberHere 59 = .ok (.imul, 1) := by decide +kernel
theorem dX12_numberHere_60 : decode cX12_numberHere 60 = .ok (.aload_n 0, 1) := by decide +kernel
theorem dX12_numberHere_61 : decode cX12_numberHere 61 = .ok (.getfield 7, 3) := by decide +kernel
theorem dX12_numberHere_64 : decode cX12_numberHere 64 = .ok (.aload_n 0, 1) := by decide +kernel
theorem dX12_numberHere_65 : decode cX12_numberHere 65 = .ok (.getfield 93, 3) := by decide +kernel
theorem dX12_numberHere_68 : decode cX12_numberHere 68 = .ok (.baload, 1) := by decide +kernel
theorem dX12_numberHere_69 : decode cX12_numberHere 69 = .ok (.iadd, 1) := by decide +kernel
theorem dX12_numberHere_70 : decode cX12_numberHere 70 = .ok (.bipush 48, 2) := by decide +kernel
theorem dX12_numberHere_72 : decode cX12_numberHere 72 = .ok (.isub, 1) := by decide +kernel
theorem dX12_numberHere_73 : decode cX12_numberHere 73 = .ok (.istore 4, 2) := by decide +kernel
theorem dX12_numberHere_75 : decode cX12_numberHere 75 = .ok (.aload_n 0, 1) := by decide +kernel
theorem dX12_numberHere_76 : decode cX12_numberHere 76 = .ok (.dup, 1) := by decide +kernel
theorem dX12_numberHere_77 : decode cX12_numberHere 77 = .ok (.getfield 93, 3) := by decide +kernel
theorem dX12_numberHere_80 : decode cX12_numberHere 80 = .ok (.iconst 1, 1) := by decide +kernel
theorem dX12_numberHere_81 : decode cX12_numberHere 81 = .ok (.iadd, 1) := by decide +kernel
theorem dX12_numberHere_82 : decode cX12_numberHere 82 = .ok (.putfield 93, 3) := by decide +kernel
theorem dX12_numberHere_85 : decode cX12_numberHere 85 = .ok (.goto (-51), 3) := by decide +kernel
theorem dX12_numberHere_88 : decode cX12_numberHere 88 = .ok (.aload_n 0, 1) := by decide +kernel
theorem dX12_numberHere_89 : decode cX12_numberHere 89 = .ok (.iload 4, 2) := by decide +kernel
theorem dX12_numberHere_91 : decode cX12_numberHere 91 = .ok (.putfield 118, 3) := by decide +kernel
theorem dX12_numberHere_94 : decode cX12_numberHere 94 = .ok (.aload_n 0, 1) := by decide +kernel
theorem dX12_numberHere_95 : decode cX12_numberHere 95 = .ok (.getfield 93, 3) := by decide +kernel
theorem dX12_numberHere_98 : decode cX12_numberHere 98 = .ok (.iload_n 3, 1) := by decide +kernel
theorem dX12_numberHere_99 : decode cX12_numberHere 99 = .ok (.isub, 1) := by decide +kernel
theorem dX12_numberHere_100 : decode cX12_numberHere 100 = .ok (.iconst 5, 1) := by decide +kernel
theorem dX12_numberHere_101 : decode cX12_numberHere 101 = .ok (.if_icmp .gt 16, 3) := by decide +kernel
theorem dX12_numberHere_104 : decode cX12_numberHere 104 = .ok (.iload 4, 2) := by decide +kernel
theorem dX12_numberHere_106 : decode cX12_numberHere 106 = .ok (.i2l, 1) := by decide +kernel
theorem dX12_numberHere_107 : decode cX12_numberHere 107 = .ok (.iload_n 1, 1) := by decide +kernel
theorem dX12_numberHere_108 : decode cX12_numberHere 108 = .ok (.i2l, 1) := by decide +kernel
theorem dX12_numberHere_109 : decode cX12_numberHere 109 = .ok (.iload_n 2, 1) := by decide +kernel
theorem dX12_numberHere_110 : decode cX12_numberHere 110 = .ok (.i2l, 1) := by decide +kernel
theorem dX12_numberHere_111 : decode cX12_numberHere 111 = .ok (.invokestatic 121, 3) := by decide +kernel
theorem dX12_numberHere_114 : decode cX12_numberHere 114 = .ok (.ifCond .ne 12, 3) := by decide +kernel
theorem dX12_numberHere_117 : decode cX12_numberHere 117 = .ok (.aload_n 0, 1) := by decide +kernel
theorem dX12_numberHere_118 : decode cX12_numberHere 118 = .ok (.iconst 1, 1) := by decide +kernel
theorem dX12_numberHere_119 : decode cX12_numberHere 119 = .ok (.iload_n 3, 1) := by decide +kernel
theorem dX12_numberHere_120 : decode cX12_numberHere 120 = .ok (.invokevirtual 114, 3) := by decide +kernel
theorem dX12_numberHere_123 : decode cX12_numberHere 123 = .ok (.ifCond .eq 7, 3) := by decide +kernel
theorem dX12_numberHere_126 : decode cX12_numberHere 126 = .ok (.iconst 1, 1) := by decide +kernel
theorem dX12_numberHere_127 : decode cX12_numberHere 127 = .ok (.goto 4, 3) := by decide +kernel
theorem dX12_numberHere_130 : decode cX12_numberHere 130 = .ok (.iconst 0, 1) := by decide +kernel
theorem dX12_numberHere_131 : decode cX12_numberHere 131 = .ok (.ireturn, 1) := by decide +kernel
theorem dX12_passWord_0 : decode cX12_passWord 0 = .ok (.aload_n 0, 1) := by decide +kernel
theorem dX12_passWord_1 : decode cX12_passWord 1 = .ok (.aload_n 0, 1) := by decide +kernel
theorem dX12_passWord_2 : decode cX12_passWord 2 = .ok (.getfield 93, 3) := by decide +kernel
theorem dX12_passWord_5 : decode cX12_passWord 5 = .ok (.invokevirtual 100, 3) := by decide +kernel
theorem dX12_passWord_8 : decode cX12_passWord 8 = .ok (.ifCond .eq 16, 3) := by decide +kernel
theorem dX12_passWord_11 : decode cX12_passWord 11 = .ok (.aload_n 0, 1) := by decide +kernel
theorem dX12_passWord_12 : decode cX12_passWord 12 = .ok (.dup, 1) := by decide +kernel
theorem dX12_passWord_13 : decode cX12_passWord 13 = .ok (.getfield 93, 3) := by decide +kernel
theorem dX12_passWord_16 : decode cX12_passWord 16 = .ok (.iconst 1, 1) := by decide +kernel
theorem dX12_passWord_17 : decode cX12_passWord 17 = .ok (.iadd, 1) := by decide +kernel
theorem dX12_passWord_18 : decode cX12_passWord 18 = .ok (.putfield 93, 3) := by decide +kernel
theorem dX12_passWord_21 : decode cX12_passWord 21 = .ok (.goto (-21), 3) := by decide +kernel
theorem dX12_passWord_24 : decode cX12_passWord 24 = .ok (.return_, 1) := by decide +kernel
theorem dX12_see_0 : decode cX12_see 0 = .ok (.aload_n 0, 1) := by decide +kernel
theorem dX12_see_1 : decode cX12_see 1 = .ok (.getfield 93, 3) := by decide +kernel
theorem dX12_see_4 : decode cX12_see 4 = .ok (.aload_n 0, 1) := by decide +kernel
theorem dX12_see_5 : decode cX12_see 5 = .ok (.getfield 83, 3) := by decide +kernel
theorem dX12_see_8 : decode cX12_see 8 = .ok (.if_icmp .ge 30, 3) := by decide +kernel
theorem dX12_see_11 : decode cX12_see 11 = .ok (.aload_n 0, 1) := by decide +kernel
theorem dX12_see_12 : decode cX12_see 12 = .ok (.getfield 7, 3) := by decide +kernel
theorem dX12_see_15 : decode cX12_see 15 = .ok (.aload_n 0, 1) := by decide +kernel
theorem dX12_see_16 : decode cX12_see 16 = .ok (.getfield 93, 3) := by decide +kernel
theorem dX12_see_19 : decode cX12_see 19 = .ok (.baload, 1) := by decide +kernel
theorem dX12_see_20 : decode cX12_see 20 = .ok (.bipush 32, 2) := by decide +kernel
theorem dX12_see_22 : decode cX12_see 22 = .ok (.if_icmp .ne 16, 3) := by decide +kernel
theorem dX12_see_25 : decode cX12_see 25 = .ok (.aload_n 0, 1) := by decide +kernel
theorem dX12_see_26 : decode cX12_see 26 = .ok (.dup, 1) := by decide +kernel
theorem dX12_see_27 : decode cX12_see 27 = .ok (.getfield 93, 3) := by decide +kernel
theorem dX12_see_30 : decode cX12_see 30 = .ok (.iconst 1, 1) := by decide +kernel
theorem dX12_see_31 : decode cX12_see 31 = .ok (.iadd, 1) := by decide +kernel
theorem dX12_see_32 : decode cX12_see 32 = .ok (.putfield 93, 3) := by decide +kernel
theorem dX12_see_35 : decode cX12_see 35 = .ok (.goto (-35), 3) := by decide +kernel
theorem dX12_see_38 : decode cX12_see 38 = .ok (.aload_n 0, 1) := by decide +kernel
theorem dX12_see_39 : decode cX12_see 39 = .ok (.getfield 93, 3) := by decide +kernel
theorem dX12_see_42 : decode cX12_see 42 = .ok (.aload_n 0, 1) := by decide +kernel
theorem dX12_see_43 : decode cX12_see 43 = .ok (.getfield 83, 3) := by decide +kernel
theorem dX12_see_46 : decode cX12_see 46 = .ok (.if_icmp .ge 19, 3) := by decide +kernel
theorem dX12_see_49 : decode cX12_see 49 = .ok (.aload_n 0, 1) := by decide +kernel
theorem dX12_see_50 : decode cX12_see 50 = .ok (.getfield 7, 3) := by decide +kernel
theorem dX12_see_53 : decode cX12_see 53 = .ok (.aload_n 0, 1) := by decide +kernel
theorem dX12_see_54 : decode cX12_see 54 = .ok (.getfield 93, 3) := by decide +kernel
theorem dX12_see_57 : decode cX12_see 57 = .ok (.baload, 1) := by decide +kernel
theorem dX12_see_58 : decode cX12_see 58 = .ok (.sipush 255, 3) := by decide +kernel
theorem dX12_see_61 : decode cX12_see 61 = .ok (.iand, 1) := by decide +kernel
theorem dX12_see_62 : decode cX12_see 62 = .ok (.goto 4, 3) := by decide +kernel
theorem dX12_see_65 : decode cX12_see 65 = .ok (.iconst (-1), 1) := by decide +kernel
theorem dX12_see_66 : decode cX12_see 66 = .ok (.ireturn, 1) := by decide +kernel
theorem dX12_spot_0 : decode cX12_spot 0 = .ok (.bipush 61, 2) := by decide +kernel
theorem dX12_spot_2 : decode cX12_spot 2 = .ok (.iload_n 0, 1) := by decide +kernel
theorem dX12_spot_3 : decode cX12_spot 3 = .ok (.imul, 1) := by decide +kernel
theorem dX12_spot_4 : decode cX12_spot 4 = .ok (.iload_n 1, 1) := by decide +kernel
theorem dX12_spot_5 : decode cX12_spot 5 = .ok (.iadd, 1) := by decide +kernel
theorem dX12_spot_6 : decode cX12_spot 6 = .ok (.ireturn, 1) := by decide +kernel
theorem li_255 : (255 : Int32).toInt = 255 := by decide
theorem iv_59_0 {B : Nat} : aiv B 59 (0 : Int32).toInt.toNat = (0, 1) := by rw [show (0 : Int32).toInt.toNat = 0 by decide]; rfl
theorem iv_59_3 {B : Nat} : aiv B 59 (3 : Int32).toInt.toNat = (0, 6) := by rw [show (3 : Int32).toInt.toNat = 3 by decide]; rfl
theorem iv_59_4 {B : Nat} : aiv B 59 (4 : Int32).toInt.toNat = (0, 4) := by rw [show (4 : Int32).toInt.toNat = 4 by decide]; rfl
theorem iv_59_5 {B : Nat} : aiv B 59 (5 : Int32).toInt.toNat = (0, 6) := by rw [show (5 : Int32).toInt.toNat = 5 by decide]; rfl
set_option maxHeartbeats 4000000 in
set_option maxRecDepth 100000 in
theorem t_X12_spot (l : Launch) (dC : Nat → ClassId) (dI : Nat → Nat → Nat) (tys : List (ClassId × FieldType)) (κ : tK) (B : Nat) (ws : va_W) (hT : Ty κ tys B ws) (a0 : Int32) (l_a0 : 0 ≤ a0.toInt) (h_a0 : a0.toInt ≤ 6) (a1 : Int32) (l_a1 : 0 ≤ a1.toInt) (h_a1 : a1.toInt ≤ 60) (sz : Nat) : Met l yX12_spot (ws_u yX12_spot cX12_spot 2 (some .int)) ({ frames := 0, cells := 0, slots := 0, locals := 0 }) (va_Pc [.int a0, .int a1] (cPre (dC, dI) tys ws sz)) (va_Qi (fun (r : Int32) (w : va_W) => 0 ≤ r.toInt ∧ r.toInt ≤ 426 ∧ Ty κ tys B w ∧ Sm [] [] κ ws w) (fun w t => cPost (dC, dI) tys w (va_A ws sz) t) (va_A ws sz)) 0 0 (va_A ws sz) := by
  refine Met.ofW (cc := cX12_spot) (maxL := 2) (ret := (some .int)) (by decide) rfl ?_
  intro p e s m args below meth c s₁ B0 hml hv
  obtain ⟨rfl, hsz, hP, hK, hD0, hE⟩ := hv
  have hx := B0.exec
  have hb := B0.bytes
  have hr := B0.returns
  have hts0 := atoms_spec (ws := ws_u yX12_spot cX12_spot 2 (some .int)) B0.pre
  have hts : ∀ w ∈ gT, w.before _ s = true := fun w h => hts0 w (List.mem_cons_of_mem _ h)
  have hown : s.vm.findClass RX12 = some m.cls := findClass_of_methodNamed B0.named
  have hlocks := B0.notSynchronized
  subst hsz
  have hD := hD0.self (sz := s.heap.size)
  generalize hAe : va_A ws s.heap.size = A at hD ⊢
  have hA : ∀ q : Nat, s.heap.size ≤ q → A q := fun q h => by rw [← hAe]; exact Or.inr h
  have hw : tW (dC, dI) tys κ B A s ws s.heap [] := ⟨hK, hP, hD, va_S.rf, hT⟩
  have hM : Sm [] [] κ ws ws := Sm.rf
  clear hP hK hD hD0 hts0
  have hl := lv_entry ([.int a0, .int a1]) (n := 2) (Nat.le_of_ble_eq_true rfl)
  rw [lg_entry_eq]
  generalize (lg_sl ([.int a0, .int a1]) ++ List.replicate (2 - (lg_sl ([.int a0, .int a1])).length) Slot.unset).toArray = ls at hl ⊢
  have hl : lv_has ls 2 [(0, .int a0), (1, .int a1)] := hl
  refine t_start (fun QQ hQ => ?_)
  refine lv_bipush (v := 61) hx hb dX12_spot_0 (by decide) ?_
  refine lv_iload_n hx hb dX12_spot_2 rfl (lv_at hl 0 rfl) ?_
  refine lv_imul hx hb dX12_spot_3 ?_
  refine lv_topi (fun v3 e_v3 => ?_)
  have e_v3 : v3.toInt = 61 * a0.toInt := ml_i e_v3 li_61 rfl (by omega) (by omega)
  refine lv_iload_n hx hb dX12_spot_4 rfl (lv_at hl 1 rfl) ?_
  refine lv_iadd hx hb dX12_spot_5 ?_
  refine lv_topi (fun v5 e_v5 => ?_)
  have e_v5 : v5.toInt = v3.toInt + a1.toInt := ad_i e_v5 rfl rfl (by omega) (by omega)
  rw [hQ]
  refine W.widen (k := 0) (n := 0) (Nat.le_refl _) (Nat.le_refl _) ?_
  exact W.iret (v := v5) hx hb hr (fun t ht hW => ⟨⟨v5, ws, rfl, ⟨(by omega), (by omega), hw.2.2.2.2, hM⟩, by rw [ht]; exact hw.2.1, va_K.moved hW.alike hw.1, hw.2.2.1⟩, hw.2.2.2.1.F ht⟩) hw.2.2.2.1.2.2 dX12_spot_6
set_option maxHeartbeats 4000000 in
set_option maxRecDepth 100000 in
theorem t_X12_alikeAt (l : Launch) (dC : Nat → ClassId) (dI : Nat → Nat → Nat) (tys : List (ClassId × FieldType)) (κ : tK) (B : Nat) (ws : va_W) (hT : Ty κ tys B ws) (a0 : Nat) (k_a0 : κ a0 = some 12) (a1 : Int32) (l_a1 : 0 ≤ a1.toInt) (h_a1 : a1.toInt ≤ 60) (sz : Nat) : Met l yX12_alikeAt (ws_u yX12_alikeAt cX12_alikeAt 6 (some .int)) ({ frames := 1, cells := 0, slots := 0, locals := 21 }) (va_Pc [.ref a0, .int a1] (cPre (dC, dI) tys ws sz)) (va_Qi (fun (r : Int32) (w : va_W) => 0 ≤ r.toInt ∧ r.toInt ≤ 2147483647 ∧ Ty κ tys B w ∧ Sm [] [] κ ws w) (fun w t => cPost (dC, dI) tys w (va_A ws sz) t) (va_A ws sz)) 0 0 (va_A ws sz) := by
  refine Met.ofW (cc := cX12_alikeAt) (maxL := 6) (ret := (some .int)) (by decide) rfl ?_
  intro p e s m args below meth c s₁ B0 hml hv
  obtain ⟨rfl, hsz, hP, hK, hD0, hE⟩ := hv
  have hx := B0.exec
  have hb := B0.bytes
  have hr := B0.returns
  have hts0 := atoms_spec (ws := ws_u yX12_alikeAt cX12_alikeAt 6 (some .int)) B0.pre
  have hts : ∀ w ∈ gT, w.before _ s = true := fun w h => hts0 w (List.mem_cons_of_mem _ h)
  have hown : s.vm.findClass RX12 = some m.cls := findClass_of_methodNamed B0.named
  have hlocks := B0.notSynchronized
  subst hsz
  have hD := hD0.self (sz := s.heap.size)
  generalize hAe : va_A ws s.heap.size = A at hD ⊢
  have hA : ∀ q : Nat, s.heap.size ≤ q → A q := fun q h => by rw [← hAe]; exact Or.inr h
  have hw : tW (dC, dI) tys κ B A s ws s.heap [] := ⟨hK, hP, hD, va_S.rf, hT⟩
  have hM : Sm [] [] κ ws ws := Sm.rf
  clear hP hK hD hD0 hts0
  have hl := lv_entry ([.ref a0, .int a1]) (n := 6) (Nat.le_of_ble_eq_true rfl)
  rw [lg_entry_eq]
  generalize (lg_sl ([.ref a0, .int a1]) ++ List.replicate (6 - (lg_sl ([.ref a0, .int a1])).length) Slot.unset).toArray = ls at hl ⊢
  have hl : lv_has ls 6 [(0, .ref a0), (1, .int a1)] := hl
  refine t_start (fun QQ hQ => ?_)
  refine lv_iconst (v := 0) hx hb dX12_alikeAt_0 (by decide) ?_
  refine lv_istore_n (lv' := [(2, .int 0), (0, .ref a0), (1, .int a1)]) hx hb dX12_alikeAt_1 rfl hl (by decide) rfl (fun ls hl => ?_)
  refine lv_iconst (v := 0) hx hb dX12_alikeAt_2 (by decide) ?_
  refine lv_istore_n (lv' := [(3, .int 0), (2, .int 0), (0, .ref a0), (1, .int a1)]) hx hb dX12_alikeAt_3 rfl hl (by decide) rfl (fun ls hl => ?_)
  have J4 : ∀ (n : Nat) (H : Heap) (locs : List Loc) (ls : Array Slot), (∃ (w4 : va_W) (p4_l2 : Int32) (p4_l3 : Int32), tW (dC, dI) tys κ B A s w4 H locs ∧ Sm [] [] κ ws w4 ∧ 0 ≤ p4_l2.toInt ∧ p4_l2.toInt ≤ 2147483647 ∧ 0 ≤ p4_l3.toInt ∧ p4_l3.toInt ≤ 7 ∧ lv_has ls 6 [(0, .ref a0), (1, .int a1), (2, .int p4_l2), (3, .int p4_l3)] ∧ (7 - p4_l3.toInt).toNat = n) → W p l e (headSpec (ws_u yX12_alikeAt cX12_alikeAt 6 (some .int)) ({ frames := 1, cells := 0, slots := 0, locals := 21 })).room s m ([.ref a0, .int a1] : List Value).toArray below meth c H locs 0 0 QQ (F0 m 4 ls []) := by
    refine loopT _ ?_
    intro n_4 H locs ls hI ih_4
    obtain ⟨w4, p4_l2, p4_l3, hw, hM, l_p4_l2, h_p4_l2, l_p4_l3, h_p4_l3, hl, hn_4⟩ := hI
    refine lv_iload_n hx hb dX12_alikeAt_4 rfl (lv_at hl 3 rfl) ?_
    refine lv_aload_n hx hb dX12_alikeAt_5 rfl (lv_at hl 0 rfl) ?_
    refine t_geti (ci := 12) (C := RX12) (T := TX12) (N := 38) hx hb hts iX12 hown hw k_a0 rfl rfl rfl 2 (by decide) (hts _ tw_1127) (fun _ h9 => h9) dX12_alikeAt_6 rfl (fun v6 l_v6 h_v6 f_a0_X12_2 => ?_)
    have l_v6 : 0 ≤ v6.toInt := l_v6
    have h_v6 : v6.toInt ≤ 6 := h_v6
    refine lv_icmp_gt (tgt := 105) hx hb dX12_alikeAt_9 (by decide) (fun c_9 => ?_) (fun c_9 => ?_)
    · simp only [fa_lt, fa_le, fa_eq] at c_9
      refine lv_iload_n hx hb dX12_alikeAt_105 rfl (lv_at hl 2 rfl) ?_
      rw [hQ]
      refine W.widen (k := 0) (n := 0) (Nat.le_refl _) (Nat.le_refl _) ?_
      exact W.iret (v := p4_l2) hx hb hr (fun t ht hW => ⟨⟨p4_l2, w4, rfl, ⟨(by omega), (by omega), hw.2.2.2.2, hM⟩, by rw [ht]; exact hw.2.1, va_K.moved hW.alike hw.1, hw.2.2.1⟩, hw.2.2.2.1.F ht⟩) hw.2.2.2.1.2.2 dX12_alikeAt_106
    · simp only [fa_lt, fa_le, fa_eq] at c_9
      refine lv_iconst (v := 0) hx hb dX12_alikeAt_12 (by decide) ?_
      refine lv_istore (lv' := [(4, .int 0), (0, .ref a0), (1, .int a1), (2, .int p4_l2), (3, .int p4_l3)]) hx hb dX12_alikeAt_13 hl (by decide) rfl (fun ls hl => ?_)
      refine lv_iconst (v := 0) hx hb dX12_alikeAt_15 (by decide) ?_
      refine lv_istore (lv' := [(5, .int 0), (4, .int 0), (0, .ref a0), (1, .int a1), (2, .int p4_l2), (3, .int p4_l3)]) hx hb dX12_alikeAt_16 hl (by decide) rfl (fun ls hl => ?_)
      have J18 : ∀ (n : Nat) (H : Heap) (locs : List Loc) (ls : Array Slot), (∃ (w18 : va_W) (p18_l4 : Int32) (p18_l5 : Int32), tW (dC, dI) tys κ B A s w18 H locs ∧ Sm [] [] κ ws w18 ∧ (-2147483648) ≤ p18_l4.toInt ∧ p18_l4.toInt ≤ 2147483647 ∧ 0 ≤ p18_l5.toInt ∧ p18_l5.toInt ≤ 7 ∧ fld w18 a0 12 2 (.int v6) ∧ lv_has ls 6 [(0, .ref a0), (1, .int a1), (2, .int p4_l2), (3, .int p4_l3), (4, .int p18_l4), (5, .int p18_l5)] ∧ (7 - p18_l5.toInt).toNat = n) → W p l e (headSpec (ws_u yX12_alikeAt cX12_alikeAt 6 (some .int)) ({ frames := 1, cells := 0, slots := 0, locals := 21 })).room s m ([.ref a0, .int a1] : List Value).toArray below meth c H locs 0 0 QQ (F0 m 18 ls []) := by
        refine loopT _ ?_
        intro n_18 H locs ls hI ih_18
        obtain ⟨w18, p18_l4, p18_l5, hw, hM, l_p18_l4, h_p18_l4, l_p18_l5, h_p18_l5, f_a0_X12_2, hl, hn_18⟩ := hI
        refine lv_iload hx hb dX12_alikeAt_18 (lv_at hl 5 rfl) ?_
        refine lv_aload_n hx hb dX12_alikeAt_20 rfl (lv_at hl 0 rfl) ?_
        refine t_getk (ci := 12) (C := RX12) (T := TX12) (N := 38) hx hb hts iX12 hown hw rfl 2 (by decide) (hts _ tw_1127) (fun _ h9 => h9) dX12_alikeAt_21 f_a0_X12_2 ?_
        have J86 : ∀ (H : Heap) (locs : List Loc) (ls : Array Slot) (w86 : va_W), tW (dC, dI) tys κ B A s w86 H locs → Sm [] [] κ ws w86 → fld w86 a0 12 2 (.int v6) → lv_has ls 6 [(0, .ref a0), (1, .int a1), (2, .int p4_l2), (3, .int p4_l3), (4, .int p18_l4), (5, .int p18_l5)] → W p l e (headSpec (ws_u yX12_alikeAt cX12_alikeAt 6 (some .int)) ({ frames := 1, cells := 0, slots := 0, locals := 21 })).room s m ([.ref a0, .int a1] : List Value).toArray below meth c H locs 0 0 QQ (F0 m 86 ls []) := by
          intro H locs ls w86 hw hM f_a0_X12_2 hl
          refine lv_iload hx hb dX12_alikeAt_86 (lv_at hl 4 rfl) ?_
          refine lv_iload_n hx hb dX12_alikeAt_88 rfl (lv_at hl 2 rfl) ?_
          have J98 : ∀ (H : Heap) (locs : List Loc) (ls : Array Slot) (w98 : va_W) (p98_s0 : Int32), tW (dC, dI) tys κ B A s w98 H locs → Sm [] [] κ ws w98 → 0 ≤ p98_s0.toInt → p98_s0.toInt ≤ 2147483647 → fld w98 a0 12 2 (.int v6) → lv_has ls 6 [(0, .ref a0), (1, .int a1), (2, .int p4_l2), (3, .int p4_l3), (4, .int p18_l4), (5, .int p18_l5)] → W p l e (headSpec (ws_u yX12_alikeAt cX12_alikeAt 6 (some .int)) ({ frames := 1, cells := 0, slots := 0, locals := 21 })).room s m ([.ref a0, .int a1] : List Value).toArray below meth c H locs 0 0 QQ (F0 m 98 ls [.int p98_s0]) := by
            intro H locs ls w98 p98_s0 hw hM l_p98_s0 h_p98_s0 f_a0_X12_2 hl
            refine lv_istore_n (lv' := [(2, .int p98_s0), (0, .ref a0), (1, .int a1), (3, .int p4_l3), (4, .int p18_l4), (5, .int p18_l5)]) hx hb dX12_alikeAt_98 rfl hl (by decide) rfl (fun ls hl => ?_)
            obtain ⟨v99, e_v99⟩ : ∃ y : Int32, y = p4_l3 + 1 := ⟨_, rfl⟩
            refine lv_iinc (v := v99) (lv' := [(3, .int v99), (2, .int p98_s0), (0, .ref a0), (1, .int a1), (4, .int p18_l4), (5, .int p18_l5)]) hx hb dX12_alikeAt_99 hl (k := 3) rfl e_v99.symm (by decide) rfl (fun ls hl => ?_)
            have e_v99 : v99.toInt = p4_l3.toInt + 1 := ad_i e_v99 rfl li_1 (by omega) (by omega)
            refine lv_goto (tgt := 4) hx hb dX12_alikeAt_102 (by decide) ?_
            exact ih_4 _ _ _ _ (by omega) ⟨w98, p98_s0, v99, hw, hM, (by omega), (by omega), (by omega), (by omega), (lv_sub hl [2, 3, 1, 0] rfl), rfl⟩
          refine lv_icmp_le (tgt := 97) hx hb dX12_alikeAt_89 (by decide) (fun c_89 => ?_) (fun c_89 => ?_)
          · simp only [fa_lt, fa_le, fa_eq] at c_89
            refine lv_iload_n hx hb dX12_alikeAt_97 rfl (lv_at hl 2 rfl) ?_
            exact J98 _ _ _ w86 p4_l2 hw hM (by omega) (by omega) f_a0_X12_2 (lv_sub hl [0, 1, 2, 3, 4, 5] rfl)
          · simp only [fa_lt, fa_le, fa_eq] at c_89
            refine lv_iload hx hb dX12_alikeAt_92 (lv_at hl 4 rfl) ?_
            refine lv_goto (tgt := 98) hx hb dX12_alikeAt_94 (by decide) ?_
            exact J98 _ _ _ w86 p18_l4 hw hM (by omega) (by omega) f_a0_X12_2 (lv_sub hl [0, 1, 2, 3, 4, 5] rfl)
        refine lv_icmp_gt (tgt := 86) hx hb dX12_alikeAt_24 (by decide) (fun c_24 => ?_) (fun c_24 => ?_)
        · simp only [fa_lt, fa_le, fa_eq] at c_24
          exact J86 _ _ _ w18 hw hM f_a0_X12_2 (lv_sub hl [0, 1, 2, 3, 4, 5] rfl)
        · simp only [fa_lt, fa_le, fa_eq] at c_24
          refine lv_aload_n hx hb dX12_alikeAt_27 rfl (lv_at hl 0 rfl) ?_
          refine t_getr (k1 := 70) (ci := 12) (C := RX12) (T := TX12) (N := 38) hx hb hts iX12 hown hw k_a0 rfl rfl rfl 31 (by decide) (hts _ tw_1156) (fun _ h9 => h9) dX12_alikeAt_28 rfl (fun v28 k_v28 f_a0_X12_31 => ?_)
          refine lv_iload_n hx hb dX12_alikeAt_31 rfl (lv_at hl 3 rfl) ?_
          refine t_zald hx hb hw k_v28 rfl rfl (by omega) (show p4_l3.toInt < 7 by omega) dX12_alikeAt_32 (fun v32 r_v32 s_v32 q_v32 => ?_)
          have l_v32 := i32_lo v32
          have h_v32 := i32_hi v32
          refine lv_if_eq (tgt := 86) hx hb dX12_alikeAt_33 (by decide) (fun c_33 => ?_) (fun c_33 => ?_)
          · simp only [fa_lt, fa_le, fa_eq, li_0] at c_33
            exact J86 _ _ _ w18 hw hM f_a0_X12_2 (lv_sub hl [0, 1, 2, 3, 4, 5] rfl)
          · simp only [fa_lt, fa_le, fa_eq, li_0] at c_33
            refine lv_iload hx hb dX12_alikeAt_36 (lv_at hl 4 rfl) ?_
            refine lv_aload_n hx hb dX12_alikeAt_38 rfl (lv_at hl 0 rfl) ?_
            refine t_getk (ci := 12) (C := RX12) (T := TX12) (N := 38) hx hb hts iX12 hown hw rfl 31 (by decide) (hts _ tw_1156) (fun _ h9 => h9) dX12_alikeAt_39 f_a0_X12_31 ?_
            refine lv_iload hx hb dX12_alikeAt_42 (lv_at hl 5 rfl) ?_
            refine t_zald hx hb hw k_v28 rfl rfl (by omega) (show p18_l5.toInt < 7 by omega) dX12_alikeAt_44 (fun v44 r_v44 s_v44 q_v44 => ?_)
            have l_v44 := i32_lo v44
            have h_v44 := i32_hi v44
            have J77 : ∀ (H : Heap) (locs : List Loc) (ls : Array Slot) (w77 : va_W) (p77_s0 : Int32), tW (dC, dI) tys κ B A s w77 H locs → Sm [] [] κ ws w77 → 0 ≤ p77_s0.toInt → p77_s0.toInt ≤ 1 → fld w77 a0 12 2 (.int v6) → fld w77 a0 12 31 (.ref v28) → lv_has ls 6 [(0, .ref a0), (1, .int a1), (2, .int p4_l2), (3, .int p4_l3), (4, .int p18_l4), (5, .int p18_l5)] → W p l e (headSpec (ws_u yX12_alikeAt cX12_alikeAt 6 (some .int)) ({ frames := 1, cells := 0, slots := 0, locals := 21 })).room s m ([.ref a0, .int a1] : List Value).toArray below meth c H locs 0 0 QQ (F0 m 77 ls [.int p77_s0, .int p18_l4]) := by
              intro H locs ls w77 p77_s0 hw hM l_p77_s0 h_p77_s0 f_a0_X12_2 f_a0_X12_31 hl
              refine lv_iadd hx hb dX12_alikeAt_77 ?_
              refine lv_topi (fun v77 e_v77 => ?_)
              have l_v77 := i32_lo v77
              have h_v77 := i32_hi v77
              refine lv_istore (lv' := [(4, .int v77), (0, .ref a0), (1, .int a1), (2, .int p4_l2), (3, .int p4_l3), (5, .int p18_l5)]) hx hb dX12_alikeAt_78 hl (by decide) rfl (fun ls hl => ?_)
              obtain ⟨v80, e_v80⟩ : ∃ y : Int32, y = p18_l5 + 1 := ⟨_, rfl⟩
              refine lv_iinc (v := v80) (lv' := [(5, .int v80), (4, .int v77), (0, .ref a0), (1, .int a1), (2, .int p4_l2), (3, .int p4_l3)]) hx hb dX12_alikeAt_80 hl (k := 5) rfl e_v80.symm (by decide) rfl (fun ls hl => ?_)
              have e_v80 : v80.toInt = p18_l5.toInt + 1 := ad_i e_v80 rfl li_1 (by omega) (by omega)
              refine lv_goto (tgt := 18) hx hb dX12_alikeAt_83 (by decide) ?_
              exact ih_18 _ _ _ _ (by omega) ⟨w77, v77, v80, hw, hM, (by omega), (by omega), (by omega), (by omega), f_a0_X12_2, (lv_sub hl [2, 3, 4, 5, 1, 0] rfl), rfl⟩
            have J76 : ∀ (H : Heap) (locs : List Loc) (ls : Array Slot) (w76 : va_W), tW (dC, dI) tys κ B A s w76 H locs → Sm [] [] κ ws w76 → fld w76 a0 12 2 (.int v6) → fld w76 a0 12 31 (.ref v28) → lv_has ls 6 [(0, .ref a0), (1, .int a1), (2, .int p4_l2), (3, .int p4_l3), (4, .int p18_l4), (5, .int p18_l5)] → W p l e (headSpec (ws_u yX12_alikeAt cX12_alikeAt 6 (some .int)) ({ frames := 1, cells := 0, slots := 0, locals := 21 })).room s m ([.ref a0, .int a1] : List Value).toArray below meth c H locs 0 0 QQ (F0 m 76 ls [.int p18_l4]) := by
              intro H locs ls w76 hw hM f_a0_X12_2 f_a0_X12_31 hl
              refine lv_iconst (v := 0) hx hb dX12_alikeAt_76 (by decide) ?_
              exact J77 _ _ _ w76 0 hw hM (by decide) (by decide) f_a0_X12_2 f_a0_X12_31 (lv_sub hl [0, 1, 2, 3, 4, 5] rfl)
            refine lv_if_eq (tgt := 76) hx hb dX12_alikeAt_45 (by decide) (fun c_45 => ?_) (fun c_45 => ?_)
            · simp only [fa_lt, fa_le, fa_eq, li_0] at c_45
              exact J76 _ _ _ w18 hw hM f_a0_X12_2 f_a0_X12_31 (lv_sub hl [0, 1, 2, 3, 4, 5] rfl)
            · simp only [fa_lt, fa_le, fa_eq, li_0] at c_45
              refine lv_aload_n hx hb dX12_alikeAt_48 rfl (lv_at hl 0 rfl) ?_
              refine t_getr (k1 := 71) (ci := 12) (C := RX12) (T := TX12) (N := 38) hx hb hts iX12 hown hw k_a0 rfl rfl rfl 32 (by decide) (hts _ tw_1157) (fun _ h9 => h9) dX12_alikeAt_49 rfl (fun v49 k_v49 f_a0_X12_32 => ?_)
              refine lv_iload_n hx hb dX12_alikeAt_52 rfl (lv_at hl 3 rfl) ?_
              refine lv_iload_n hx hb dX12_alikeAt_53 rfl (lv_at hl 1 rfl) ?_
              refine t_calli (va_runS (As := [.int p4_l3, .int a1]) (rest := [.ref v49, .int p18_l4]) ⟨hx, hb, hml, hown, hts⟩ (t_X12_spot l dC dI tys κ B w18 hw.2.2.2.2 p4_l3 (by omega) (by omega) a1 (by omega) (by omega) H.size) (va_cwS 2 hts (gUS tw_1712 tw_1713 tw_13 tw_1714) rfl rfl rfl (by decide +kernel) ⟨(Nat.le_of_ble_eq_true rfl), (Nat.le_of_ble_eq_true rfl)⟩) ⟨cPre.blind, cPre.use hw.2.1 hw.1 hw.2.2.1 hE⟩ rfl rfl hl.1 rfl (lv_room (Nat.le_of_ble_eq_true rfl)) dX12_alikeAt_54 ⟨(Nat.le_of_ble_eq_true rfl), (Nat.le_of_ble_eq_true rfl)⟩) hw hA (fun _ _ h => h.2.2.1) (fun v54 w_1 H locs hp hw => ?_)
              obtain ⟨l_v54, h_v54, _, hm⟩ := hp
              have hM := hM.trans hm (by decide) (by decide)
              have f_a0_X12_2 := hm.1 _ _ _ _ f_a0_X12_2 (by decide)
              have f_a0_X12_31 := hm.1 _ _ _ _ f_a0_X12_31 (by decide)
              have f_a0_X12_32 := hm.1 _ _ _ _ f_a0_X12_32 (by decide)
              refine t_iald hx hb hw k_v49 rfl rfl (by omega) (show v54.toInt < 427 by omega) dX12_alikeAt_57 (fun v57 r_v57 s_v57 q_v57 => ?_)
              have l_v57 := i32_lo v57
              have h_v57 := i32_hi v57
              refine lv_aload_n hx hb dX12_alikeAt_58 rfl (lv_at hl 0 rfl) ?_
              refine t_getk (ci := 12) (C := RX12) (T := TX12) (N := 38) hx hb hts iX12 hown hw rfl 32 (by decide) (hts _ tw_1157) (fun _ h9 => h9) dX12_alikeAt_59 f_a0_X12_32 ?_
              refine lv_iload hx hb dX12_alikeAt_62 (lv_at hl 5 rfl) ?_
              refine lv_iload_n hx hb dX12_alikeAt_64 rfl (lv_at hl 1 rfl) ?_
              refine t_calli (va_runS (As := [.int p18_l5, .int a1]) (rest := [.ref v49, .int v57, .int p18_l4]) ⟨hx, hb, hml, hown, hts⟩ (t_X12_spot l dC dI tys κ B w_1 hw.2.2.2.2 p18_l5 (by omega) (by omega) a1 (by omega) (by omega) H.size) (va_cwS 2 hts (gUS tw_1712 tw_1713 tw_13 tw_1714) rfl rfl rfl (by decide +kernel) ⟨(Nat.le_of_ble_eq_true rfl), (Nat.le_of_ble_eq_true rfl)⟩) ⟨cPre.blind, cPre.use hw.2.1 hw.1 hw.2.2.1 hE⟩ rfl rfl hl.1 rfl (lv_room (Nat.le_of_ble_eq_true rfl)) dX12_alikeAt_65 ⟨(Nat.le_of_ble_eq_true rfl), (Nat.le_of_ble_eq_true rfl)⟩) hw hA (fun _ _ h => h.2.2.1) (fun v65 w_2 H locs hp hw => ?_)
              obtain ⟨l_v65, h_v65, _, hm⟩ := hp
              have hM := hM.trans hm (by decide) (by decide)
              have f_a0_X12_2 := hm.1 _ _ _ _ f_a0_X12_2 (by decide)
              have f_a0_X12_31 := hm.1 _ _ _ _ f_a0_X12_31 (by decide)
              have f_a0_X12_32 := hm.1 _ _ _ _ f_a0_X12_32 (by decide)
              refine t_iald hx hb hw k_v49 rfl rfl (by omega) (show v65.toInt < 427 by omega) dX12_alikeAt_68 (fun v68 r_v68 s_v68 q_v68 => ?_)
              have l_v68 := i32_lo v68
              have h_v68 := i32_hi v68
              refine lv_icmp_ne (tgt := 76) hx hb dX12_alikeAt_69 (by decide) (fun c_69 => ?_) (fun c_69 => ?_)
              · simp only [fa_lt, fa_le, fa_eq] at c_69
                exact J76 _ _ _ w_2 hw hM f_a0_X12_2 f_a0_X12_31 (lv_sub hl [0, 1, 2, 3, 4, 5] rfl)
              · simp only [fa_lt, fa_le, fa_eq] at c_69
                refine lv_iconst (v := 1) hx hb dX12_alikeAt_72 (by decide) ?_
                refine lv_goto (tgt := 77) hx hb dX12_alikeAt_73 (by decide) ?_
                exact J77 _ _ _ w_2 1 hw hM (by decide) (by decide) f_a0_X12_2 f_a0_X12_31 (lv_sub hl [0, 1, 2, 3, 4, 5] rfl)
      exact J18 _ _ _ _ ⟨w4, 0, 0, hw, hM, (by decide), (by decide), (by decide), (by decide), f_a0_X12_2, (lv_sub hl [2, 3, 4, 5, 1, 0] rfl), rfl⟩
  exact J4 _ _ _ _ ⟨ws, 0, 0, hw, hM, (by decide), (by decide), (by decide), (by decide), (lv_sub hl [2, 3, 1, 0] rfl), rfl⟩
set_option maxHeartbeats 4000000 in
set_option maxRecDepth 100000 in
theorem t_X12_fails (l : Launch) (dC : Nat → ClassId) (dI : Nat → Nat → Nat) (tys : List (ClassId × FieldType)) (κ : tK) (B : Nat) (ws : va_W) (hT : Ty κ tys B ws) (a0 : Nat) (k_a0 : κ a0 = some 12) (a1 : Int32) (l_a1 : 0 ≤ a1.toInt) (h_a1 : a1.toInt ≤ 4) (a2 : Int32) (l_a2 : 0 ≤ a2.toInt) (h_a2 : a2.toInt ≤ 400) (sz : Nat) : Met l yX12_fails (ws_u yX12_fails cX12_fails 3 (some .boolean)) ({ frames := 0, cells := 0, slots := 0, locals := 0 }) (va_Pc [.ref a0, .int a1, .int a2] (cPre (dC, dI) tys ws sz)) (va_Qi (fun (r : Int32) (w : va_W) => 0 ≤ r.toInt ∧ r.toInt ≤ 0 ∧ Ty κ tys B w ∧ Sm [(12, 9)] [] κ ws w) (fun w t => cPost (dC, dI) tys w (va_A ws sz) t) (va_A ws sz)) 0 0 (va_A ws sz) := by
  refine Met.ofW (cc := cX12_fails) (maxL := 3) (ret := (some .boolean)) (by decide) rfl ?_
  intro p e s m args below meth c s₁ B0 hml hv
  obtain ⟨rfl, hsz, hP, hK, hD0, hE⟩ := hv
  have hx := B0.exec
  have hb := B0.bytes
  have hr := B0.returns
  have hts0 := atoms_spec (ws := ws_u yX12_fails cX12_fails 3 (some .boolean)) B0.pre
  have hts : ∀ w ∈ gT, w.before _ s = true := fun w h => hts0 w (List.mem_cons_of_mem _ h)
  have hown : s.vm.findClass RX12 = some m.cls := findClass_of_methodNamed B0.named
  have hlocks := B0.notSynchronized
  subst hsz
  have hD := hD0.self (sz := s.heap.size)
  generalize hAe : va_A ws s.heap.size = A at hD ⊢
  have hA : ∀ q : Nat, s.heap.size ≤ q → A q := fun q h => by rw [← hAe]; exact Or.inr h
  have hw : tW (dC, dI) tys κ B A s ws s.heap [] := ⟨hK, hP, hD, va_S.rf, hT⟩
  have hM : Sm [(12, 9)] [] κ ws ws := Sm.rf
  clear hP hK hD hD0 hts0
  have hl := lv_entry ([.ref a0, .int a1, .int a2]) (n := 3) (Nat.le_of_ble_eq_true rfl)
  rw [lg_entry_eq]
  generalize (lg_sl ([.ref a0, .int a1, .int a2]) ++ List.replicate (3 - (lg_sl ([.ref a0, .int a1, .int a2])).length) Slot.unset).toArray = ls at hl ⊢
  have hl : lv_has ls 3 [(0, .ref a0), (1, .int a1), (2, .int a2)] := hl
  refine t_start (fun QQ hQ => ?_)
  refine lv_aload_n hx hb dX12_fails_0 rfl (lv_at hl 0 rfl) ?_
  refine t_geti (ci := 12) (C := RX12) (T := TX12) (N := 38) hx hb hts iX12 hown hw k_a0 rfl rfl rfl 9 (by decide) (hts _ tw_1134) (fun _ h9 => h9) dX12_fails_1 rfl (fun v1 l_v1 h_v1 f_a0_X12_9 => ?_)
  have l_v1 : (-2147483648) ≤ v1.toInt := l_v1
  have h_v1 : v1.toInt ≤ 2147483647 := h_v1
  refine lv_if_ne (tgt := 19) hx hb dX12_fails_4 (by decide) (fun c_4 => ?_) (fun c_4 => ?_)
  · simp only [fa_lt, fa_le, fa_eq, li_0] at c_4
    refine lv_iconst (v := 0) hx hb dX12_fails_19 (by decide) ?_
    rw [hQ]
    refine W.widen (k := 0) (n := 0) (Nat.le_refl _) (Nat.le_refl _) ?_
    exact W.zret (v := 0) hx hb hr rfl (fun t ht hW => ⟨⟨0, ws, rfl, ⟨(by decide), (by decide), hw.2.2.2.2, hM⟩, by rw [ht]; exact hw.2.1, va_K.moved hW.alike hw.1, hw.2.2.1⟩, hw.2.2.2.1.F ht⟩) hw.2.2.2.1.2.2 dX12_fails_20
  · simp only [fa_lt, fa_le, fa_eq, li_0] at c_4
    refine lv_aload_n hx hb dX12_fails_7 rfl (lv_at hl 0 rfl) ?_
    refine lv_iconst (v := 1) hx hb dX12_fails_8 (by decide) ?_
    refine lv_bipush (v := 8) hx hb dX12_fails_9 (by decide) ?_
    refine lv_iload_n hx hb dX12_fails_11 rfl (lv_at hl 2 rfl) ?_
    refine lv_imul hx hb dX12_fails_12 ?_
    refine lv_topi (fun v12 e_v12 => ?_)
    have e_v12 : v12.toInt = 8 * a2.toInt := ml_i e_v12 li_8 rfl (by omega) (by omega)
    refine lv_iadd hx hb dX12_fails_13 ?_
    refine lv_topi (fun v13 e_v13 => ?_)
    have e_v13 : v13.toInt = 1 + v12.toInt := ad_i e_v13 li_1 rfl (by omega) (by omega)
    refine lv_iload_n hx hb dX12_fails_14 rfl (lv_at hl 1 rfl) ?_
    refine lv_iadd hx hb dX12_fails_15 ?_
    refine lv_topi (fun v15 e_v15 => ?_)
    have e_v15 : v15.toInt = v13.toInt + a1.toInt := ad_i e_v15 rfl rfl (by omega) (by omega)
    refine t_put (ci := 12) (C := RX12) (T := TX12) (N := 38) (v := .int v15) hx hb hts iX12 tyX12 tyX12_ok nmX12 hown hw k_a0 rfl rfl rfl 9 (by decide) (hts _ tw_1134) (fun _ h9 => h9) rfl (tyX12_ok 9 (by decide)) rfl rfl (okV.int rfl (by omega) (by omega)) dX12_fails_16 (fun w_1 H locs hw u => ?_)
    have hM := hM.up1 u (by decide)
    have f_a0_X12_9 := u.2.2
    refine lv_iconst (v := 0) hx hb dX12_fails_19 (by decide) ?_
    rw [hQ]
    refine W.widen (k := 0) (n := 0) (Nat.le_refl _) (Nat.le_refl _) ?_
    exact W.zret (v := 0) hx hb hr rfl (fun t ht hW => ⟨⟨0, w_1, rfl, ⟨(by decide), (by decide), hw.2.2.2.2, hM⟩, by rw [ht]; exact hw.2.1, va_K.moved hW.alike hw.1, hw.2.2.1⟩, hw.2.2.2.1.F ht⟩) hw.2.2.2.1.2.2 dX12_fails_20
set_option maxHeartbeats 4000000 in
set_option maxRecDepth 100000 in
theorem t_X12_isDigit (l : Launch) (dC : Nat → ClassId) (dI : Nat → Nat → Nat) (tys : List (ClassId × FieldType)) (κ : tK) (B : Nat) (ws : va_W) (hT : Ty κ tys B ws) (a0 : Nat) (k_a0 : κ a0 = some 12) (a1 : Int32) (l_a1 : 0 ≤ a1.toInt) (h_a1 : a1.toInt ≤ 400) (f0 : Int32) (l_f0 : 0 ≤ f0.toInt) (h_f0 : f0.toInt ≤ 400) (f_a0_X12_1 : fld ws a0 12 1 (.int f0)) (sz : Nat) : Met l yX12_isDigit (ws_u yX12_isDigit cX12_isDigit 2 (some .boolean)) ({ frames := 0, cells := 0, slots := 0, locals := 0 }) (va_Pc [.ref a0, .int a1] (cPre (dC, dI) tys ws sz)) (va_Qi (fun (r : Int32) (w : va_W) => 0 ≤ r.toInt ∧ r.toInt ≤ 1 ∧ Ty κ tys B w ∧ Sm [] [] κ ws w ∧ (r.toInt = 0 ∨ a1.toInt ≤ 399) ∧ (r.toInt = 0 ∨ a1.toInt < f0.toInt)) (fun w t => cPost (dC, dI) tys w (va_A ws sz) t) (va_A ws sz)) 0 0 (va_A ws sz) := by
  refine Met.ofW (cc := cX12_isDigit) (maxL := 2) (ret := (some .boolean)) (by decide) rfl ?_
  intro p e s m args below meth c s₁ B0 hml hv
  obtain ⟨rfl, hsz, hP, hK, hD0, hE⟩ := hv
  have hx := B0.exec
  have hb := B0.bytes
  have hr := B0.returns
  have hts0 := atoms_spec (ws := ws_u yX12_isDigit cX12_isDigit 2 (some .boolean)) B0.pre
  have hts : ∀ w ∈ gT, w.before _ s = true := fun w h => hts0 w (List.mem_cons_of_mem _ h)
  have hown : s.vm.findClass RX12 = some m.cls := findClass_of_methodNamed B0.named
  have hlocks := B0.notSynchronized
  subst hsz
  have hD := hD0.self (sz := s.heap.size)
  generalize hAe : va_A ws s.heap.size = A at hD ⊢
  have hA : ∀ q : Nat, s.heap.size ≤ q → A q := fun q h => by rw [← hAe]; exact Or.inr h
  have hw : tW (dC, dI) tys κ B A s ws s.heap [] := ⟨hK, hP, hD, va_S.rf, hT⟩
  have hM : Sm [] [] κ ws ws := Sm.rf
  clear hP hK hD hD0 hts0
  have hl := lv_entry ([.ref a0, .int a1]) (n := 2) (Nat.le_of_ble_eq_true rfl)
  rw [lg_entry_eq]
  generalize (lg_sl ([.ref a0, .int a1]) ++ List.replicate (2 - (lg_sl ([.ref a0, .int a1])).length) Slot.unset).toArray = ls at hl ⊢
  have hl : lv_has ls 2 [(0, .ref a0), (1, .int a1)] := hl
  refine t_start (fun QQ hQ => ?_)
  refine lv_iload_n hx hb dX12_isDigit_0 rfl (lv_at hl 1 rfl) ?_
  refine lv_aload_n hx hb dX12_isDigit_1 rfl (lv_at hl 0 rfl) ?_
  refine t_getk (ci := 12) (C := RX12) (T := TX12) (N := 38) hx hb hts iX12 hown hw rfl 1 (by decide) (hts _ tw_1126) (fun _ h9 => h9) dX12_isDigit_2 f_a0_X12_1 ?_
  refine lv_icmp_ge (tgt := 34) hx hb dX12_isDigit_5 (by decide) (fun c_5 => ?_) (fun c_5 => ?_)
  · simp only [fa_lt, fa_le, fa_eq] at c_5
    refine lv_iconst (v := 0) hx hb dX12_isDigit_34 (by decide) ?_
    rw [hQ]
    refine W.widen (k := 0) (n := 0) (Nat.le_refl _) (Nat.le_refl _) ?_
    exact W.zret (v := 0) hx hb hr rfl (fun t ht hW => ⟨⟨0, ws, rfl, ⟨(by decide), (by decide), hw.2.2.2.2, hM, (by have := li_0; omega), (by have := li_0; omega)⟩, by rw [ht]; exact hw.2.1, va_K.moved hW.alike hw.1, hw.2.2.1⟩, hw.2.2.2.1.F ht⟩) hw.2.2.2.1.2.2 dX12_isDigit_35
  · simp only [fa_lt, fa_le, fa_eq] at c_5
    refine lv_aload_n hx hb dX12_isDigit_8 rfl (lv_at hl 0 rfl) ?_
    refine t_getr (k1 := 54) (ci := 12) (C := RX12) (T := TX12) (N := 38) hx hb hts iX12 hown hw k_a0 rfl rfl rfl 0 (by decide) (hts _ tw_1125) (fun _ h9 => h9) dX12_isDigit_9 rfl (fun v9 k_v9 f_a0_X12_0 => ?_)
    refine lv_iload_n hx hb dX12_isDigit_12 rfl (lv_at hl 1 rfl) ?_
    refine t_bald hx hb hw k_v9 rfl rfl (by omega) (show a1.toInt < 400 by omega) dX12_isDigit_13 (fun v13 r_v13 s_v13 q_v13 => ?_)
    have l_v13 := i32_lo v13
    have h_v13 := i32_hi v13
    refine lv_bipush (v := 48) hx hb dX12_isDigit_14 (by decide) ?_
    refine lv_icmp_lt (tgt := 34) hx hb dX12_isDigit_16 (by decide) (fun c_16 => ?_) (fun c_16 => ?_)
    · simp only [fa_lt, fa_le, fa_eq, li_48] at c_16
      refine lv_iconst (v := 0) hx hb dX12_isDigit_34 (by decide) ?_
      rw [hQ]
      refine W.widen (k := 0) (n := 0) (Nat.le_refl _) (Nat.le_refl _) ?_
      exact W.zret (v := 0) hx hb hr rfl (fun t ht hW => ⟨⟨0, ws, rfl, ⟨(by decide), (by decide), hw.2.2.2.2, hM, (by have := li_0; omega), (by have := li_0; omega)⟩, by rw [ht]; exact hw.2.1, va_K.moved hW.alike hw.1, hw.2.2.1⟩, hw.2.2.2.1.F ht⟩) hw.2.2.2.1.2.2 dX12_isDigit_35
    · simp only [fa_lt, fa_le, fa_eq, li_48] at c_16
      refine lv_aload_n hx hb dX12_isDigit_19 rfl (lv_at hl 0 rfl) ?_
      refine t_getk (ci := 12) (C := RX12) (T := TX12) (N := 38) hx hb hts iX12 hown hw rfl 0 (by decide) (hts _ tw_1125) (fun _ h9 => h9) dX12_isDigit_20 f_a0_X12_0 ?_
      refine lv_iload_n hx hb dX12_isDigit_23 rfl (lv_at hl 1 rfl) ?_
      refine t_bald hx hb hw k_v9 rfl rfl (by omega) (show a1.toInt < 400 by omega) dX12_isDigit_24 (fun v24 r_v24 s_v24 q_v24 => ?_)
      have l_v24 := i32_lo v24
      have h_v24 := i32_hi v24
      refine lv_bipush (v := 57) hx hb dX12_isDigit_25 (by decide) ?_
      refine lv_icmp_gt (tgt := 34) hx hb dX12_isDigit_27 (by decide) (fun c_27 => ?_) (fun c_27 => ?_)
      · simp only [fa_lt, fa_le, fa_eq, li_57] at c_27
        refine lv_iconst (v := 0) hx hb dX12_isDigit_34 (by decide) ?_
        rw [hQ]
        refine W.widen (k := 0) (n := 0) (Nat.le_refl _) (Nat.le_refl _) ?_
        exact W.zret (v := 0) hx hb hr rfl (fun t ht hW => ⟨⟨0, ws, rfl, ⟨(by decide), (by decide), hw.2.2.2.2, hM, (by have := li_0; omega), (by have := li_0; omega)⟩, by rw [ht]; exact hw.2.1, va_K.moved hW.alike hw.1, hw.2.2.1⟩, hw.2.2.2.1.F ht⟩) hw.2.2.2.1.2.2 dX12_isDigit_35
      · simp only [fa_lt, fa_le, fa_eq, li_57] at c_27
        refine lv_iconst (v := 1) hx hb dX12_isDigit_30 (by decide) ?_
        refine lv_goto (tgt := 35) hx hb dX12_isDigit_31 (by decide) ?_
        rw [hQ]
        refine W.widen (k := 0) (n := 0) (Nat.le_refl _) (Nat.le_refl _) ?_
        exact W.zret (v := 1) hx hb hr rfl (fun t ht hW => ⟨⟨1, ws, rfl, ⟨(by decide), (by decide), hw.2.2.2.2, hM, (by have := li_1; omega), (by have := li_1; omega)⟩, by rw [ht]; exact hw.2.1, va_K.moved hW.alike hw.1, hw.2.2.1⟩, hw.2.2.2.1.F ht⟩) hw.2.2.2.1.2.2 dX12_isDigit_35
set_option maxHeartbeats 4000000 in
set_option maxRecDepth 100000 in
theorem t_X12_see (l : Launch) (dC : Nat → ClassId) (dI : Nat → Nat → Nat) (tys : List (ClassId × FieldType)) (κ : tK) (B : Nat) (ws : va_W) (hT : Ty κ tys B ws) (a0 : Nat) (k_a0 : κ a0 = some 12) (f0 : Int32) (l_f0 : 0 ≤ f0.toInt) (h_f0 : f0.toInt ≤ 400) (f_a0_X12_8 : fld ws a0 12 8 (.int f0)) (f1 : Int32) (l_f1 : 0 ≤ f1.toInt) (h_f1 : f1.toInt ≤ 400) (f_a0_X12_1 : fld ws a0 12 1 (.int f1)) (sz : Nat) : Met l yX12_see (ws_u yX12_see cX12_see 1 (some .int)) ({ frames := 0, cells := 0, slots := 0, locals := 0 }) (va_Pc [.ref a0] (cPre (dC, dI) tys ws sz)) (va_Qi (fun (r : Int32) (w : va_W) => (-1) ≤ r.toInt ∧ r.toInt ≤ 255 ∧ Ty κ tys B w ∧ Sm [(12, 8)] [] κ ws w ∧ (∃ (xn : Int32), 0 ≤ xn.toInt ∧ xn.toInt ≤ 400 ∧ fld w a0 12 8 (.int xn) ∧ f0.toInt ≤ xn.toInt ∧ (xn.toInt = f0.toInt ∨ xn.toInt ≤ f1.toInt) ∧ (r.toInt = -1 ∨ xn.toInt < f1.toInt))) (fun w t => cPost (dC, dI) tys w (va_A ws sz) t) (va_A ws sz)) 0 0 (va_A ws sz) := by
  refine Met.ofW (cc := cX12_see) (maxL := 1) (ret := (some .int)) (by decide) rfl ?_
  intro p e s m args below meth c s₁ B0 hml hv
  obtain ⟨rfl, hsz, hP, hK, hD0, hE⟩ := hv
  have hx := B0.exec
  have hb := B0.bytes
  have hr := B0.returns
  have hts0 := atoms_spec (ws := ws_u yX12_see cX12_see 1 (some .int)) B0.pre
  have hts : ∀ w ∈ gT, w.before _ s = true := fun w h => hts0 w (List.mem_cons_of_mem _ h)
  have hown : s.vm.findClass RX12 = some m.cls := findClass_of_methodNamed B0.named
  have hlocks := B0.notSynchronized
  subst hsz
  have hD := hD0.self (sz := s.heap.size)
  generalize hAe : va_A ws s.heap.size = A at hD ⊢
  have hA : ∀ q : Nat, s.heap.size ≤ q → A q := fun q h => by rw [← hAe]; exact Or.inr h
  have hw : tW (dC, dI) tys κ B A s ws s.heap [] := ⟨hK, hP, hD, va_S.rf, hT⟩
  have hM : Sm [(12, 8)] [] κ ws ws := Sm.rf
  clear hP hK hD hD0 hts0
  have hl := lv_entry ([.ref a0]) (n := 1) (Nat.le_of_ble_eq_true rfl)
  rw [lg_entry_eq]
  generalize (lg_sl ([.ref a0]) ++ List.replicate (1 - (lg_sl ([.ref a0])).length) Slot.unset).toArray = ls at hl ⊢
  have hl : lv_has ls 1 [(0, .ref a0)] := hl
  refine t_start (fun QQ hQ => ?_)
  have J0 : ∀ (n : Nat) (H : Heap) (locs : List Loc) (ls : Array Slot), (∃ (w0 : va_W) (p0_m_a0_X12_8 : Int32), tW (dC, dI) tys κ B A s w0 H locs ∧ Sm [(12, 8)] [] κ ws w0 ∧ 0 ≤ p0_m_a0_X12_8.toInt ∧ p0_m_a0_X12_8.toInt ≤ 400 ∧ fld w0 a0 12 1 (.int f1) ∧ fld w0 a0 12 8 (.int p0_m_a0_X12_8) ∧ f0.toInt ≤ p0_m_a0_X12_8.toInt ∧ (p0_m_a0_X12_8.toInt = f0.toInt ∨ p0_m_a0_X12_8.toInt ≤ f1.toInt) ∧ lv_has ls 1 [(0, .ref a0)] ∧ (400 - p0_m_a0_X12_8.toInt).toNat = n) → W p l e (headSpec (ws_u yX12_see cX12_see 1 (some .int)) ({ frames := 0, cells := 0, slots := 0, locals := 0 })).room s m ([.ref a0] : List Value).toArray below meth c H locs 0 0 QQ (F0 m 0 ls []) := by
    refine loopT _ ?_
    intro n_0 H locs ls hI ih_0
    obtain ⟨w0, p0_m_a0_X12_8, hw, hM, l_p0_m_a0_X12_8, h_p0_m_a0_X12_8, f_a0_X12_1, f_a0_X12_8, li_0_0, li_0_1, hl, hn_0⟩ := hI
    refine lv_aload_n hx hb dX12_see_0 rfl (lv_at hl 0 rfl) ?_
    refine t_getk (ci := 12) (C := RX12) (T := TX12) (N := 38) hx hb hts iX12 hown hw rfl 8 (by decide) (hts _ tw_1133) (fun _ h9 => h9) dX12_see_1 f_a0_X12_8 ?_
    refine lv_aload_n hx hb dX12_see_4 rfl (lv_at hl 0 rfl) ?_
    refine t_getk (ci := 12) (C := RX12) (T := TX12) (N := 38) hx hb hts iX12 hown hw rfl 1 (by decide) (hts _ tw_1126) (fun _ h9 => h9) dX12_see_5 f_a0_X12_1 ?_
    refine lv_icmp_ge (tgt := 38) hx hb dX12_see_8 (by decide) (fun c_8 => ?_) (fun c_8 => ?_)
    · simp only [fa_lt, fa_le, fa_eq] at c_8
      refine lv_aload_n hx hb dX12_see_38 rfl (lv_at hl 0 rfl) ?_
      refine t_getk (ci := 12) (C := RX12) (T := TX12) (N := 38) hx hb hts iX12 hown hw rfl 8 (by decide) (hts _ tw_1133) (fun _ h9 => h9) dX12_see_39 f_a0_X12_8 ?_
      refine lv_aload_n hx hb dX12_see_42 rfl (lv_at hl 0 rfl) ?_
      refine t_getk (ci := 12) (C := RX12) (T := TX12) (N := 38) hx hb hts iX12 hown hw rfl 1 (by decide) (hts _ tw_1126) (fun _ h9 => h9) dX12_see_43 f_a0_X12_1 ?_
      refine lv_icmp_ge (tgt := 65) hx hb dX12_see_46 (by decide) (fun c_46 => ?_) (fun c_46 => ?_)
      · simp only [fa_lt, fa_le, fa_eq] at c_46
        refine lv_iconst (v := (-1)) hx hb dX12_see_65 (by decide) ?_
        rw [hQ]
        refine W.widen (k := 0) (n := 0) (Nat.le_refl _) (Nat.le_refl _) ?_
        exact W.iret (v := (-1)) hx hb hr (fun t ht hW => ⟨⟨(-1), w0, rfl, ⟨(by decide), (by decide), hw.2.2.2.2, hM, ⟨p0_m_a0_X12_8, (by omega), (by omega), f_a0_X12_8, (by have := li_m1; omega)⟩⟩, by rw [ht]; exact hw.2.1, va_K.moved hW.alike hw.1, hw.2.2.1⟩, hw.2.2.2.1.F ht⟩) hw.2.2.2.1.2.2 dX12_see_66
      · simp only [fa_lt, fa_le, fa_eq] at c_46
        refine lv_aload_n hx hb dX12_see_49 rfl (lv_at hl 0 rfl) ?_
        refine t_getr (k1 := 54) (ci := 12) (C := RX12) (T := TX12) (N := 38) hx hb hts iX12 hown hw k_a0 rfl rfl rfl 0 (by decide) (hts _ tw_1125) (fun _ h9 => h9) dX12_see_50 rfl (fun v50 k_v50 f_a0_X12_0 => ?_)
        refine lv_aload_n hx hb dX12_see_53 rfl (lv_at hl 0 rfl) ?_
        refine t_getk (ci := 12) (C := RX12) (T := TX12) (N := 38) hx hb hts iX12 hown hw rfl 8 (by decide) (hts _ tw_1133) (fun _ h9 => h9) dX12_see_54 f_a0_X12_8 ?_
        refine t_bald hx hb hw k_v50 rfl rfl (by omega) (show p0_m_a0_X12_8.toInt < 400 by omega) dX12_see_57 (fun v57 r_v57 s_v57 q_v57 => ?_)
        have l_v57 := i32_lo v57
        have h_v57 := i32_hi v57
        refine lv_sipush (v := 255) hx hb dX12_see_58 (by decide) ?_
        refine lv_iand hx hb dX12_see_61 ?_
        refine lv_topi (fun v61 e_v61 => ?_)
        have ⟨l_v61, h_v61⟩ : 0 ≤ v61.toInt ∧ v61.toInt ≤ 255 := and_r e_v61 li_255 (by decide)
        refine lv_goto (tgt := 66) hx hb dX12_see_62 (by decide) ?_
        rw [hQ]
        refine W.widen (k := 0) (n := 0) (Nat.le_refl _) (Nat.le_refl _) ?_
        exact W.iret (v := v61) hx hb hr (fun t ht hW => ⟨⟨v61, w0, rfl, ⟨(by omega), (by omega), hw.2.2.2.2, hM, ⟨p0_m_a0_X12_8, (by omega), (by omega), f_a0_X12_8, (by omega)⟩⟩, by rw [ht]; exact hw.2.1, va_K.moved hW.alike hw.1, hw.2.2.1⟩, hw.2.2.2.1.F ht⟩) hw.2.2.2.1.2.2 dX12_see_66
    · simp only [fa_lt, fa_le, fa_eq] at c_8
      refine lv_aload_n hx hb dX12_see_11 rfl (lv_at hl 0 rfl) ?_
      refine t_getr (k1 := 54) (ci := 12) (C := RX12) (T := TX12) (N := 38) hx hb hts iX12 hown hw k_a0 rfl rfl rfl 0 (by decide) (hts _ tw_1125) (fun _ h9 => h9) dX12_see_12 rfl (fun v12 k_v12 f_a0_X12_0 => ?_)
      refine lv_aload_n hx hb dX12_see_15 rfl (lv_at hl 0 rfl) ?_
      refine t_getk (ci := 12) (C := RX12) (T := TX12) (N := 38) hx hb hts iX12 hown hw rfl 8 (by decide) (hts _ tw_1133) (fun _ h9 => h9) dX12_see_16 f_a0_X12_8 ?_
      refine t_bald hx hb hw k_v12 rfl rfl (by omega) (show p0_m_a0_X12_8.toInt < 400 by omega) dX12_see_19 (fun v19 r_v19 s_v19 q_v19 => ?_)
      have l_v19 := i32_lo v19
      have h_v19 := i32_hi v19
      refine lv_bipush (v := 32) hx hb dX12_see_20 (by decide) ?_
      refine lv_icmp_ne (tgt := 38) hx hb dX12_see_22 (by decide) (fun c_22 => ?_) (fun c_22 => ?_)
      · simp only [fa_lt, fa_le, fa_eq, li_32] at c_22
        refine lv_aload_n hx hb dX12_see_38 rfl (lv_at hl 0 rfl) ?_
        refine t_getk (ci := 12) (C := RX12) (T := TX12) (N := 38) hx hb hts iX12 hown hw rfl 8 (by decide) (hts _ tw_1133) (fun _ h9 => h9) dX12_see_39 f_a0_X12_8 ?_
        refine lv_aload_n hx hb dX12_see_42 rfl (lv_at hl 0 rfl) ?_
        refine t_getk (ci := 12) (C := RX12) (T := TX12) (N := 38) hx hb hts iX12 hown hw rfl 1 (by decide) (hts _ tw_1126) (fun _ h9 => h9) dX12_see_43 f_a0_X12_1 ?_
        refine lv_icmp_ge (tgt := 65) hx hb dX12_see_46 (by decide) (fun c_46 => ?_) (fun c_46 => ?_)
        · simp only [fa_lt, fa_le, fa_eq] at c_46
          refine lv_iconst (v := (-1)) hx hb dX12_see_65 (by decide) ?_
          rw [hQ]
          refine W.widen (k := 0) (n := 0) (Nat.le_refl _) (Nat.le_refl _) ?_
          exact W.iret (v := (-1)) hx hb hr (fun t ht hW => ⟨⟨(-1), w0, rfl, ⟨(by decide), (by decide), hw.2.2.2.2, hM, ⟨p0_m_a0_X12_8, (by omega), (by omega), f_a0_X12_8, (by have := li_m1; omega)⟩⟩, by rw [ht]; exact hw.2.1, va_K.moved hW.alike hw.1, hw.2.2.1⟩, hw.2.2.2.1.F ht⟩) hw.2.2.2.1.2.2 dX12_see_66
        · simp only [fa_lt, fa_le, fa_eq] at c_46
          refine lv_aload_n hx hb dX12_see_49 rfl (lv_at hl 0 rfl) ?_
          refine t_getk (ci := 12) (C := RX12) (T := TX12) (N := 38) hx hb hts iX12 hown hw rfl 0 (by decide) (hts _ tw_1125) (fun _ h9 => h9) dX12_see_50 f_a0_X12_0 ?_
          refine lv_aload_n hx hb dX12_see_53 rfl (lv_at hl 0 rfl) ?_
          refine t_getk (ci := 12) (C := RX12) (T := TX12) (N := 38) hx hb hts iX12 hown hw rfl 8 (by decide) (hts _ tw_1133) (fun _ h9 => h9) dX12_see_54 f_a0_X12_8 ?_
          refine t_bald hx hb hw k_v12 rfl rfl (by omega) (show p0_m_a0_X12_8.toInt < 400 by omega) dX12_see_57 (fun v57 r_v57 s_v57 q_v57 => ?_)
          have l_v57 := i32_lo v57
          have h_v57 := i32_hi v57
          refine lv_sipush (v := 255) hx hb dX12_see_58 (by decide) ?_
          refine lv_iand hx hb dX12_see_61 ?_
          refine lv_topi (fun v61 e_v61 => ?_)
          have ⟨l_v61, h_v61⟩ : 0 ≤ v61.toInt ∧ v61.toInt ≤ 255 := and_r e_v61 li_255 (by decide)
          refine lv_goto (tgt := 66) hx hb dX12_see_62 (by decide) ?_
          rw [hQ]
          refine W.widen (k := 0) (n := 0) (Nat.le_refl _) (Nat.le_refl _) ?_
          exact W.iret (v := v61) hx hb hr (fun t ht hW => ⟨⟨v61, w0, rfl, ⟨(by omega), (by omega), hw.2.2.2.2, hM, ⟨p0_m_a0_X12_8, (by omega), (by omega), f_a0_X12_8, (by omega)⟩⟩, by rw [ht]; exact hw.2.1, va_K.moved hW.alike hw.1, hw.2.2.1⟩, hw.2.2.2.1.F ht⟩) hw.2.2.2.1.2.2 dX12_see_66
      · simp only [fa_lt, fa_le, fa_eq, li_32] at c_22
        refine lv_aload_n hx hb dX12_see_25 rfl (lv_at hl 0 rfl) ?_
        refine lv_dup hx hb dX12_see_26 rfl ?_
        refine t_getk (ci := 12) (C := RX12) (T := TX12) (N := 38) hx hb hts iX12 hown hw rfl 8 (by decide) (hts _ tw_1133) (fun _ h9 => h9) dX12_see_27 f_a0_X12_8 ?_
        refine lv_iconst (v := 1) hx hb dX12_see_30 (by decide) ?_
        refine lv_iadd hx hb dX12_see_31 ?_
        refine lv_topi (fun v31 e_v31 => ?_)
        have e_v31 : v31.toInt = p0_m_a0_X12_8.toInt + 1 := ad_i e_v31 rfl li_1 (by omega) (by omega)
        refine t_put (ci := 12) (C := RX12) (T := TX12) (N := 38) (v := .int v31) hx hb hts iX12 tyX12 tyX12_ok nmX12 hown hw k_a0 rfl rfl rfl 8 (by decide) (hts _ tw_1133) (fun _ h9 => h9) rfl (tyX12_ok 8 (by decide)) rfl rfl (okV.int rfl (by omega) (by omega)) dX12_see_32 (fun w_1 H locs hw u => ?_)
        have hM := hM.up1 u (by decide)
        have f_a0_X12_1 := u.1 _ _ _ _ f_a0_X12_1 (Or.inr (Or.inr (by decide)))
        have f_a0_X12_8 := u.2.2
        have f_a0_X12_0 := u.1 _ _ _ _ f_a0_X12_0 (Or.inr (Or.inr (by decide)))
        refine lv_goto (tgt := 0) hx hb dX12_see_35 (by decide) ?_
        exact ih_0 _ _ _ _ (by omega) ⟨w_1, v31, hw, hM, (by omega), (by omega), f_a0_X12_1, f_a0_X12_8, (by omega), (by omega), (lv_sub hl [0] rfl), rfl⟩
  exact J0 _ _ _ _ ⟨ws, f0, hw, hM, (by omega), (by omega), f_a0_X12_1, f_a0_X12_8, (by omega), (by omega), (lv_sub hl [0] rfl), rfl⟩
set_option maxHeartbeats 4000000 in
set_option maxRecDepth 100000 in
theorem t_X12_numberHere (l : Launch) (dC : Nat → ClassId) (dI : Nat → Nat → Nat) (tys : List (ClassId × FieldType)) (κ : tK) (B : Nat) (ws : va_W) (hT : Ty κ tys B ws) (a0 : Nat) (k_a0 : κ a0 = some 12) (a1 : Int32) (l_a1 : 0 ≤ a1.toInt) (h_a1 : a1.toInt ≤ 20) (a2 : Int32) (l_a2 : (-1) ≤ a2.toInt) (h_a2 : a2.toInt ≤ 99999) (f0 : Int32) (l_f0 : 0 ≤ f0.toInt) (h_f0 : f0.toInt ≤ 400) (f_a0_X12_8 : fld ws a0 12 8 (.int f0)) (f1 : Int32) (l_f1 : 0 ≤ f1.toInt) (h_f1 : f1.toInt ≤ 400) (f_a0_X12_1 : fld ws a0 12 1 (.int f1)) (f2 : Int32) (f_a0_X12_10 : fld ws a0 12 10 (.int f2)) (sz : Nat) : Met l yX12_numberHere (ws_u yX12_numberHere cX12_numberHere 5 (some .boolean)) ({ frames := 1, cells := 0, slots := 0, locals := 25 }) (va_Pc [.ref a0, .int a1, .int a2] (cPre (dC, dI) tys ws sz)) (va_Qi (fun (r : Int32) (w : va_W) => 0 ≤ r.toInt ∧ r.toInt ≤ 1 ∧ Ty κ tys B w ∧ Sm [(12, 8), (12, 9), (12, 10)] [] κ ws w ∧ (∃ (xn : Int32) (xm : Int32), 0 ≤ xn.toInt ∧ xn.toInt ≤ 400 ∧ (-2147483648) ≤ xm.toInt ∧ xm.toInt ≤ 2147483647 ∧ fld w a0 12 8 (.int xn) ∧ fld w a0 12 10 (.int xm) ∧ f0.toInt ≤ xn.toInt ∧ (xn.toInt = f0.toInt ∨ xn.toInt ≤ f1.toInt) ∧ (r.toInt = 0 ∨ (a1.toInt ≤ xm.toInt ∧ xm.toInt ≤ a2.toInt)))) (fun w t => cPost (dC, dI) tys w (va_A ws sz) t) (va_A ws sz)) 0 0 (va_A ws sz) := by
  refine Met.ofW (cc := cX12_numberHere) (maxL := 5) (ret := (some .boolean)) (by decide) rfl ?_
  intro p e s m args below meth c s₁ B0 hml hv
  obtain ⟨rfl, hsz, hP, hK, hD0, hE⟩ := hv
  have hx := B0.exec
  have hb := B0.bytes
  have hr := B0.returns
  have hts0 := atoms_spec (ws := ws_u yX12_numberHere cX12_numberHere 5 (some .boolean)) B0.pre
  have hts : ∀ w ∈ gT, w.before _ s = true := fun w h => hts0 w (List.mem_cons_of_mem _ h)
  have hown : s.vm.findClass RX12 = some m.cls := findClass_of_methodNamed B0.named
  have hlocks := B0.notSynchronized
  subst hsz
  have hD := hD0.self (sz := s.heap.size)
  generalize hAe : va_A ws s.heap.size = A at hD ⊢
  have hA : ∀ q : Nat, s.heap.size ≤ q → A q := fun q h => by rw [← hAe]; exact Or.inr h
  have hw : tW (dC, dI) tys κ B A s ws s.heap [] := ⟨hK, hP, hD, va_S.rf, hT⟩
  have hM : Sm [(12, 8), (12, 9), (12, 10)] [] κ ws ws := Sm.rf
  clear hP hK hD hD0 hts0
  have l_f2 := i32_lo f2
  have h_f2 := i32_hi f2
  have hl := lv_entry ([.ref a0, .int a1, .int a2]) (n := 5) (Nat.le_of_ble_eq_true rfl)
  rw [lg_entry_eq]
  generalize (lg_sl ([.ref a0, .int a1, .int a2]) ++ List.replicate (5 - (lg_sl ([.ref a0, .int a1, .int a2])).length) Slot.unset).toArray = ls at hl ⊢
  have hl : lv_has ls 5 [(0, .ref a0), (1, .int a1), (2, .int a2)] := hl
  refine t_start (fun QQ hQ => ?_)
  refine lv_aload_n hx hb dX12_numberHere_0 rfl (lv_at hl 0 rfl) ?_
  refine t_calli (va_runV (As := []) (rest := []) ⟨hx, hb, hml, hown, hts⟩ (t_X12_see l dC dI tys κ B ws hw.2.2.2.2 a0 k_a0 f0 (by omega) (by omega) f_a0_X12_8 f1 (by omega) (by omega) f_a0_X12_1 s.heap.size) (cwV 0 hts (gUV tw_1264 tw_1266 ts_3_3 tw_13 tw_1267) rfl rfl rfl (by decide +kernel) ⟨(Nat.le_of_ble_eq_true rfl), (Nat.le_of_ble_eq_true rfl)⟩) ⟨cPre.blind, t_recv hw (ci := 12) k_a0 rfl rfl, cPre.use hw.2.1 hw.1 hw.2.2.1 hE⟩ rfl rfl hl.1 rfl (lv_room (Nat.le_of_ble_eq_true rfl)) dX12_numberHere_1 ⟨(Nat.le_of_ble_eq_true rfl), (Nat.le_of_ble_eq_true rfl)⟩) hw hA (fun _ _ h => h.2.2.1) (fun v1 w_1 H locs hp hw => ?_)
  obtain ⟨l_v1, h_v1, _, hm, ⟨v1n, l_v1n, h_v1n, f_a0_X12_8, y_v1⟩⟩ := hp
  have hM := hM.trans hm (by decide) (by decide)
  have f_a0_X12_1 := hm.1 _ _ _ _ f_a0_X12_1 (by decide)
  have f_a0_X12_10 := hm.1 _ _ _ _ f_a0_X12_10 (by decide)
  refine lv_pop hx hb dX12_numberHere_4 rfl ?_
  refine lv_aload_n hx hb dX12_numberHere_5 rfl (lv_at hl 0 rfl) ?_
  refine lv_aload_n hx hb dX12_numberHere_6 rfl (lv_at hl 0 rfl) ?_
  refine t_getk (ci := 12) (C := RX12) (T := TX12) (N := 38) hx hb hts iX12 hown hw rfl 8 (by decide) (hts _ tw_1133) (fun _ h9 => h9) dX12_numberHere_7 f_a0_X12_8 ?_
  refine t_calli (va_runV (As := [.int v1n]) (rest := []) ⟨hx, hb, hml, hown, hts⟩ (t_X12_isDigit l dC dI tys κ B w_1 hw.2.2.2.2 a0 k_a0 v1n (by omega) (by omega) f1 (by omega) (by omega) f_a0_X12_1 H.size) (cwV 1 hts (gUV tw_1312 tw_1314 ts_3_13 tw_13 tw_1315) rfl rfl rfl (by decide +kernel) ⟨(Nat.le_of_ble_eq_true rfl), (Nat.le_of_ble_eq_true rfl)⟩) ⟨cPre.blind, t_recv hw (ci := 12) k_a0 rfl rfl, cPre.use hw.2.1 hw.1 hw.2.2.1 hE⟩ rfl rfl hl.1 rfl (lv_room (Nat.le_of_ble_eq_true rfl)) dX12_numberHere_10 ⟨(Nat.le_of_ble_eq_true rfl), (Nat.le_of_ble_eq_true rfl)⟩) hw hA (fun _ _ h => h.2.2.1) (fun v10 w_2 H locs hp hw => ?_)
  obtain ⟨l_v10, h_v10, _, hm, x_v10_0, x_v10_1⟩ := hp
  have hM := hM.trans hm (by decide) (by decide)
  have f_a0_X12_1 := hm.1 _ _ _ _ f_a0_X12_1 (by decide)
  have f_a0_X12_10 := hm.1 _ _ _ _ f_a0_X12_10 (by decide)
  have f_a0_X12_8 := hm.1 _ _ _ _ f_a0_X12_8 (by decide)
  refine lv_if_ne (tgt := 26) hx hb dX12_numberHere_13 (by decide) (fun c_13 => ?_) (fun c_13 => ?_)
  · simp only [fa_lt, fa_le, fa_eq, li_0] at c_13
    refine lv_aload_n hx hb dX12_numberHere_26 rfl (lv_at hl 0 rfl) ?_
    refine t_getk (ci := 12) (C := RX12) (T := TX12) (N := 38) hx hb hts iX12 hown hw rfl 8 (by decide) (hts _ tw_1133) (fun _ h9 => h9) dX12_numberHere_27 f_a0_X12_8 ?_
    refine lv_istore_n (lv' := [(3, .int v1n), (0, .ref a0), (1, .int a1), (2, .int a2)]) hx hb dX12_numberHere_30 rfl hl (by decide) rfl (fun ls hl => ?_)
    refine lv_iconst (v := 0) hx hb dX12_numberHere_31 (by decide) ?_
    refine lv_istore (lv' := [(4, .int 0), (3, .int v1n), (0, .ref a0), (1, .int a1), (2, .int a2)]) hx hb dX12_numberHere_32 hl (by decide) rfl (fun ls hl => ?_)
    have J34 : ∀ (n : Nat) (H : Heap) (locs : List Loc) (ls : Array Slot), (∃ (w34 : va_W) (p34_l4 : Int32) (p34_m_a0_X12_8 : Int32), tW (dC, dI) tys κ B A s w34 H locs ∧ Sm [(12, 8), (12, 9), (12, 10)] [] κ ws w34 ∧ (-2147483648) ≤ p34_l4.toInt ∧ p34_l4.toInt ≤ 2147483647 ∧ 0 ≤ p34_m_a0_X12_8.toInt ∧ p34_m_a0_X12_8.toInt ≤ 400 ∧ fld w34 a0 12 1 (.int f1) ∧ fld w34 a0 12 10 (.int f2) ∧ fld w34 a0 12 8 (.int p34_m_a0_X12_8) ∧ v1n.toInt ≤ p34_m_a0_X12_8.toInt ∧ p34_m_a0_X12_8.toInt ≤ f1.toInt ∧ lv_has ls 5 [(0, .ref a0), (1, .int a1), (2, .int a2), (3, .int v1n), (4, .int p34_l4)] ∧ (400 - p34_m_a0_X12_8.toInt).toNat = n) → W p l e (headSpec (ws_u yX12_numberHere cX12_numberHere 5 (some .boolean)) ({ frames := 1, cells := 0, slots := 0, locals := 25 })).room s m ([.ref a0, .int a1, .int a2] : List Value).toArray below meth c H locs 0 0 QQ (F0 m 34 ls []) := by
      refine loopT _ ?_
      intro n_34 H locs ls hI ih_34
      obtain ⟨w34, p34_l4, p34_m_a0_X12_8, hw, hM, l_p34_l4, h_p34_l4, l_p34_m_a0_X12_8, h_p34_m_a0_X12_8, f_a0_X12_1, f_a0_X12_10, f_a0_X12_8, li_34_0, li_34_1, hl, hn_34⟩ := hI
      refine lv_aload_n hx hb dX12_numberHere_34 rfl (lv_at hl 0 rfl) ?_
      refine lv_aload_n hx hb dX12_numberHere_35 rfl (lv_at hl 0 rfl) ?_
      refine t_getk (ci := 12) (C := RX12) (T := TX12) (N := 38) hx hb hts iX12 hown hw rfl 8 (by decide) (hts _ tw_1133) (fun _ h9 => h9) dX12_numberHere_36 f_a0_X12_8 ?_
      refine t_calli (va_runV (As := [.int p34_m_a0_X12_8]) (rest := []) ⟨hx, hb, hml, hown, hts⟩ (t_X12_isDigit l dC dI tys κ B w34 hw.2.2.2.2 a0 k_a0 p34_m_a0_X12_8 (by omega) (by omega) f1 (by omega) (by omega) f_a0_X12_1 H.size) (cwV 1 hts (gUV tw_1312 tw_1314 ts_3_13 tw_13 tw_1315) rfl rfl rfl (by decide +kernel) ⟨(Nat.le_of_ble_eq_true rfl), (Nat.le_of_ble_eq_true rfl)⟩) ⟨cPre.blind, t_recv hw (ci := 12) k_a0 rfl rfl, cPre.use hw.2.1 hw.1 hw.2.2.1 hE⟩ rfl rfl hl.1 rfl (lv_room (Nat.le_of_ble_eq_true rfl)) dX12_numberHere_39 ⟨(Nat.le_of_ble_eq_true rfl), (Nat.le_of_ble_eq_true rfl)⟩) hw hA (fun _ _ h => h.2.2.1) (fun v39 w_3 H locs hp hw => ?_)
      obtain ⟨l_v39, h_v39, _, hm, x_v39_0, x_v39_1⟩ := hp
      have hM := hM.trans hm (by decide) (by decide)
      have f_a0_X12_1 := hm.1 _ _ _ _ f_a0_X12_1 (by decide)
      have f_a0_X12_10 := hm.1 _ _ _ _ f_a0_X12_10 (by decide)
      have f_a0_X12_8 := hm.1 _ _ _ _ f_a0_X12_8 (by decide)
      refine lv_if_eq (tgt := 88) hx hb dX12_numberHere_42 (by decide) (fun c_42 => ?_) (fun c_42 => ?_)
      · simp only [fa_lt, fa_le, fa_eq, li_0] at c_42
        refine lv_aload_n hx hb dX12_numberHere_88 rfl (lv_at hl 0 rfl) ?_
        refine lv_iload hx hb dX12_numberHere_89 (lv_at hl 4 rfl) ?_
        refine t_put (ci := 12) (C := RX12) (T := TX12) (N := 38) (v := .int p34_l4) hx hb hts iX12 tyX12 tyX12_ok nmX12 hown hw k_a0 rfl rfl rfl 10 (by decide) (hts _ tw_1135) (fun _ h9 => h9) rfl (tyX12_ok 10 (by decide)) rfl rfl (okV.int rfl (by omega) (by omega)) dX12_numberHere_91 (fun w_4 H locs hw u => ?_)
        have hM := hM.up1 u (by decide)
        have f_a0_X12_1 := u.1 _ _ _ _ f_a0_X12_1 (Or.inr (Or.inr (by decide)))
        have f_a0_X12_10 := u.2.2
        have f_a0_X12_8 := u.1 _ _ _ _ f_a0_X12_8 (Or.inr (Or.inr (by decide)))
        refine lv_aload_n hx hb dX12_numberHere_94 rfl (lv_at hl 0 rfl) ?_
        refine t_getk (ci := 12) (C := RX12) (T := TX12) (N := 38) hx hb hts iX12 hown hw rfl 8 (by decide) (hts _ tw_1133) (fun _ h9 => h9) dX12_numberHere_95 f_a0_X12_8 ?_
        refine lv_iload_n hx hb dX12_numberHere_98 rfl (lv_at hl 3 rfl) ?_
        refine lv_isub hx hb dX12_numberHere_99 ?_
        refine lv_topi (fun v99 e_v99 => ?_)
        have e_v99 : v99.toInt = p34_m_a0_X12_8.toInt - v1n.toInt := sb_i e_v99 rfl rfl (by omega) (by omega)
        refine lv_iconst (v := 5) hx hb dX12_numberHere_100 (by decide) ?_
        have J117 : ∀ (H : Heap) (locs : List Loc) (ls : Array Slot) (w117 : va_W), tW (dC, dI) tys κ B A s w117 H locs → Sm [(12, 8), (12, 9), (12, 10)] [] κ ws w117 → fld w117 a0 12 1 (.int f1) → fld w117 a0 12 10 (.int p34_l4) → fld w117 a0 12 8 (.int p34_m_a0_X12_8) → lv_has ls 5 [(0, .ref a0), (1, .int a1), (2, .int a2), (3, .int v1n), (4, .int p34_l4)] → W p l e (headSpec (ws_u yX12_numberHere cX12_numberHere 5 (some .boolean)) ({ frames := 1, cells := 0, slots := 0, locals := 25 })).room s m ([.ref a0, .int a1, .int a2] : List Value).toArray below meth c H locs 0 0 QQ (F0 m 117 ls []) := by
          intro H locs ls w117 hw hM f_a0_X12_1 f_a0_X12_10 f_a0_X12_8 hl
          refine lv_aload_n hx hb dX12_numberHere_117 rfl (lv_at hl 0 rfl) ?_
          refine lv_iconst (v := 1) hx hb dX12_numberHere_118 (by decide) ?_
          refine lv_iload_n hx hb dX12_numberHere_119 rfl (lv_at hl 3 rfl) ?_
          refine t_calli (va_runV (As := [.int 1, .int v1n]) (rest := []) ⟨hx, hb, hml, hown, hts⟩ (t_X12_fails l dC dI tys κ B w117 hw.2.2.2.2 a0 k_a0 1 (by decide) (by decide) v1n (by omega) (by omega) H.size) (cwV 2 hts (gUV tw_1288 tw_1290 ts_3_7 tw_13 tw_1291) rfl rfl rfl (by decide +kernel) ⟨(Nat.le_of_ble_eq_true rfl), (Nat.le_of_ble_eq_true rfl)⟩) ⟨cPre.blind, t_recv hw (ci := 12) k_a0 rfl rfl, cPre.use hw.2.1 hw.1 hw.2.2.1 hE⟩ rfl rfl hl.1 rfl (lv_room (Nat.le_of_ble_eq_true rfl)) dX12_numberHere_120 ⟨(Nat.le_of_ble_eq_true rfl), (Nat.le_of_ble_eq_true rfl)⟩) hw hA (fun _ _ h => h.2.2.1) (fun v120 w_5 H locs hp hw => ?_)
          obtain ⟨l_v120, h_v120, _, hm⟩ := hp
          have hM := hM.trans hm (by decide) (by decide)
          have f_a0_X12_1 := hm.1 _ _ _ _ f_a0_X12_1 (by decide)
          have f_a0_X12_10 := hm.1 _ _ _ _ f_a0_X12_10 (by decide)
          have f_a0_X12_8 := hm.1 _ _ _ _ f_a0_X12_8 (by decide)
          refine lv_if_eq (tgt := 130) hx hb dX12_numberHere_123 (by decide) (fun c_123 => ?_) (fun c_123 => by exfalso; simp only [fa_lt, fa_le, fa_eq, li_0] at c_123; omega)
          simp only [fa_lt, fa_le, fa_eq, li_0] at c_123
          refine lv_iconst (v := 0) hx hb dX12_numberHere_130 (by decide) ?_
          rw [hQ]
          refine W.widen (k := 0) (n := 0) (Nat.le_refl _) (Nat.le_refl _) ?_
          exact W.zret (v := 0) hx hb hr rfl (fun t ht hW => ⟨⟨0, w_5, rfl, ⟨(by decide), (by decide), hw.2.2.2.2, hM, ⟨p34_m_a0_X12_8, p34_l4, (by omega), (by omega), (by omega), (by omega), f_a0_X12_8, f_a0_X12_10, (by have := li_0; omega)⟩⟩, by rw [ht]; exact hw.2.1, va_K.moved hW.alike hw.1, hw.2.2.1⟩, hw.2.2.2.1.F ht⟩) hw.2.2.2.1.2.2 dX12_numberHere_131
        refine lv_icmp_gt (tgt := 117) hx hb dX12_numberHere_101 (by decide) (fun c_101 => ?_) (fun c_101 => ?_)
        · simp only [fa_lt, fa_le, fa_eq, li_5] at c_101
          exact J117 _ _ _ w_4 hw hM f_a0_X12_1 f_a0_X12_10 f_a0_X12_8 (lv_sub hl [0, 1, 2, 3, 4] rfl)
        · simp only [fa_lt, fa_le, fa_eq, li_5] at c_101
          refine lv_iload hx hb dX12_numberHere_104 (lv_at hl 4 rfl) ?_
          refine lv_i2l hx hb dX12_numberHere_106 rfl ?_
          refine lv_topl (fun v106 e_v106 => ?_)
          have t_v106 : v106.toInt = p34_l4.toInt := by rw [e_v106, Int32.toInt_toInt64]
          refine lv_iload_n hx hb dX12_numberHere_107 rfl (lv_at hl 1 rfl) ?_
          refine lv_i2l hx hb dX12_numberHere_108 rfl ?_
          refine lv_topl (fun v108 e_v108 => ?_)
          have t_v108 : v108.toInt = a1.toInt := by rw [e_v108, Int32.toInt_toInt64]
          refine lv_iload_n hx hb dX12_numberHere_109 rfl (lv_at hl 2 rfl) ?_
          refine lv_i2l hx hb dX12_numberHere_110 rfl ?_
          refine lv_topl (fun v110 e_v110 => ?_)
          have t_v110 : v110.toInt = a2.toInt := by rw [e_v110, Int32.toInt_toInt64]
          refine t_calli (va_runS (As := [.long v106, .long v108, .long v110]) (rest := []) ⟨hx, hb, hml, hown, hts⟩ (t_X12_in l dC dI tys κ B w_4 hw.2.2.2.2 v106 v108 v110 H.size) (va_cwS 3 hts (gUS tw_1316 tw_1317 tw_13 tw_1318) rfl rfl rfl (by decide +kernel) ⟨(Nat.le_of_ble_eq_true rfl), (Nat.le_of_ble_eq_true rfl)⟩) ⟨cPre.blind, cPre.use hw.2.1 hw.1 hw.2.2.1 hE⟩ rfl rfl hl.1 rfl (lv_room (Nat.le_of_ble_eq_true rfl)) dX12_numberHere_111 ⟨(Nat.le_of_ble_eq_true rfl), (Nat.le_of_ble_eq_true rfl)⟩) hw hA (fun _ _ h => h.2.2.1) (fun v111 w_6 H locs hp hw => ?_)
          obtain ⟨l_v111, h_v111, _, hm, x_v111_0⟩ := hp
          have hM := hM.trans hm (by decide) (by decide)
          have f_a0_X12_1 := hm.1 _ _ _ _ f_a0_X12_1 (by decide)
          have f_a0_X12_10 := hm.1 _ _ _ _ f_a0_X12_10 (by decide)
          have f_a0_X12_8 := hm.1 _ _ _ _ f_a0_X12_8 (by decide)
          refine lv_if_ne (tgt := 126) hx hb dX12_numberHere_114 (by decide) (fun c_114 => ?_) (fun c_114 => ?_)
          · simp only [fa_lt, fa_le, fa_eq, li_0] at c_114
            refine lv_iconst (v := 1) hx hb dX12_numberHere_126 (by decide) ?_
            refine lv_goto (tgt := 131) hx hb dX12_numberHere_127 (by decide) ?_
            rw [hQ]
            refine W.widen (k := 0) (n := 0) (Nat.le_refl _) (Nat.le_refl _) ?_
            exact W.zret (v := 1) hx hb hr rfl (fun t ht hW => ⟨⟨1, w_6, rfl, ⟨(by decide), (by decide), hw.2.2.2.2, hM, ⟨p34_m_a0_X12_8, p34_l4, (by omega), (by omega), (by omega), (by omega), f_a0_X12_8, f_a0_X12_10, (by have := li_1; omega)⟩⟩, by rw [ht]; exact hw.2.1, va_K.moved hW.alike hw.1, hw.2.2.1⟩, hw.2.2.2.1.F ht⟩) hw.2.2.2.1.2.2 dX12_numberHere_131
          · simp only [fa_lt, fa_le, fa_eq, li_0] at c_114
            exact J117 _ _ _ w_6 hw hM f_a0_X12_1 f_a0_X12_10 f_a0_X12_8 (lv_sub hl [0, 1, 2, 3, 4] rfl)
      · simp only [fa_lt, fa_le, fa_eq, li_0] at c_42
        refine lv_aload_n hx hb dX12_numberHere_45 rfl (lv_at hl 0 rfl) ?_
        refine t_getk (ci := 12) (C := RX12) (T := TX12) (N := 38) hx hb hts iX12 hown hw rfl 8 (by decide) (hts _ tw_1133) (fun _ h9 => h9) dX12_numberHere_46 f_a0_X12_8 ?_
        refine lv_iload_n hx hb dX12_numberHere_49 rfl (lv_at hl 3 rfl) ?_
        refine lv_isub hx hb dX12_numberHere_50 ?_
        refine lv_topi (fun v50 e_v50 => ?_)
        have e_v50 : v50.toInt = p34_m_a0_X12_8.toInt - v1n.toInt := sb_i e_v50 rfl rfl (by omega) (by omega)
        refine lv_iconst (v := 5) hx hb dX12_numberHere_51 (by decide) ?_
        have J75 : ∀ (H : Heap) (locs : List Loc) (ls : Array Slot) (w75 : va_W) (p75_l4 : Int32), tW (dC, dI) tys κ B A s w75 H locs → Sm [(12, 8), (12, 9), (12, 10)] [] κ ws w75 → (-2147483648) ≤ p75_l4.toInt → p75_l4.toInt ≤ 2147483647 → fld w75 a0 12 1 (.int f1) → fld w75 a0 12 10 (.int f2) → fld w75 a0 12 8 (.int p34_m_a0_X12_8) → lv_has ls 5 [(0, .ref a0), (1, .int a1), (2, .int a2), (3, .int v1n), (4, .int p75_l4)] → W p l e (headSpec (ws_u yX12_numberHere cX12_numberHere 5 (some .boolean)) ({ frames := 1, cells := 0, slots := 0, locals := 25 })).room s m ([.ref a0, .int a1, .int a2] : List Value).toArray below meth c H locs 0 0 QQ (F0 m 75 ls []) := by
          intro H locs ls w75 p75_l4 hw hM l_p75_l4 h_p75_l4 f_a0_X12_1 f_a0_X12_10 f_a0_X12_8 hl
          refine lv_aload_n hx hb dX12_numberHere_75 rfl (lv_at hl 0 rfl) ?_
          refine lv_dup hx hb dX12_numberHere_76 rfl ?_
          refine t_getk (ci := 12) (C := RX12) (T := TX12) (N := 38) hx hb hts iX12 hown hw rfl 8 (by decide) (hts _ tw_1133) (fun _ h9 => h9) dX12_numberHere_77 f_a0_X12_8 ?_
          refine lv_iconst (v := 1) hx hb dX12_numberHere_80 (by decide) ?_
          refine lv_iadd hx hb dX12_numberHere_81 ?_
          refine lv_topi (fun v81 e_v81 => ?_)
          have e_v81 : v81.toInt = p34_m_a0_X12_8.toInt + 1 := ad_i e_v81 rfl li_1 (by omega) (by omega)
          refine t_put (ci := 12) (C := RX12) (T := TX12) (N := 38) (v := .int v81) hx hb hts iX12 tyX12 tyX12_ok nmX12 hown hw k_a0 rfl rfl rfl 8 (by decide) (hts _ tw_1133) (fun _ h9 => h9) rfl (tyX12_ok 8 (by decide)) rfl rfl (okV.int rfl (by omega) (by omega)) dX12_numberHere_82 (fun w_7 H locs hw u => ?_)
          have hM := hM.up1 u (by decide)
          have f_a0_X12_1 := u.1 _ _ _ _ f_a0_X12_1 (Or.inr (Or.inr (by decide)))
          have f_a0_X12_10 := u.1 _ _ _ _ f_a0_X12_10 (Or.inr (Or.inr (by decide)))
          have f_a0_X12_8 := u.2.2
          refine lv_goto (tgt := 34) hx hb dX12_numberHere_85 (by decide) ?_
          exact ih_34 _ _ _ _ (by omega) ⟨w_7, p75_l4, v81, hw, hM, (by omega), (by omega), (by omega), (by omega), f_a0_X12_1, f_a0_X12_10, f_a0_X12_8, (by omega), (by omega), (lv_sub hl [0, 1, 2, 3, 4] rfl), rfl⟩
        refine lv_icmp_ge (tgt := 75) hx hb dX12_numberHere_52 (by decide) (fun c_52 => ?_) (fun c_52 => ?_)
        · simp only [fa_lt, fa_le, fa_eq, li_5] at c_52
          exact J75 _ _ _ w_3 p34_l4 hw hM (by omega) (by omega) f_a0_X12_1 f_a0_X12_10 f_a0_X12_8 (lv_sub hl [0, 1, 2, 3, 4] rfl)
        · simp only [fa_lt, fa_le, fa_eq, li_5] at c_52
          refine lv_bipush (v := 10) hx hb dX12_numberHere_55 (by decide) ?_
          refine lv_iload hx hb dX12_numberHere_57 (lv_at hl 4 rfl) ?_
          refine lv_imul hx hb dX12_numberHere_59 ?_
          refine lv_topi (fun v59 e_v59 => ?_)
          have l_v59 := i32_lo v59
          have h_v59 := i32_hi v59
          refine lv_aload_n hx hb dX12_numberHere_60 rfl (lv_at hl 0 rfl) ?_
          refine t_getr (k1 := 54) (ci := 12) (C := RX12) (T := TX12) (N := 38) hx hb hts iX12 hown hw k_a0 rfl rfl rfl 0 (by decide) (hts _ tw_1125) (fun _ h9 => h9) dX12_numberHere_61 rfl (fun v61 k_v61 f_a0_X12_0 => ?_)
          refine lv_aload_n hx hb dX12_numberHere_64 rfl (lv_at hl 0 rfl) ?_
          refine t_getk (ci := 12) (C := RX12) (T := TX12) (N := 38) hx hb hts iX12 hown hw rfl 8 (by decide) (hts _ tw_1133) (fun _ h9 => h9) dX12_numberHere_65 f_a0_X12_8 ?_
          refine t_bald hx hb hw k_v61 rfl rfl (by omega) (show p34_m_a0_X12_8.toInt < 400 by omega) dX12_numberHere_68 (fun v68 r_v68 s_v68 q_v68 => ?_)
          have l_v68 := i32_lo v68
          have h_v68 := i32_hi v68
          refine lv_iadd hx hb dX12_numberHere_69 ?_
          refine lv_topi (fun v69 e_v69 => ?_)
          have l_v69 := i32_lo v69
          have h_v69 := i32_hi v69
          refine lv_bipush (v := 48) hx hb dX12_numberHere_70 (by decide) ?_
          refine lv_isub hx hb dX12_numberHere_72 ?_
          refine lv_topi (fun v72 e_v72 => ?_)
          have l_v72 := i32_lo v72
          have h_v72 := i32_hi v72
          refine lv_istore (lv' := [(4, .int v72), (0, .ref a0), (1, .int a1), (2, .int a2), (3, .int v1n)]) hx hb dX12_numberHere_73 hl (by decide) rfl (fun ls hl => ?_)
          exact J75 _ _ _ w_3 v72 hw hM (by omega) (by omega) f_a0_X12_1 f_a0_X12_10 f_a0_X12_8 (lv_sub hl [1, 2, 3, 4, 0] rfl)
    exact J34 _ _ _ _ ⟨w_2, 0, v1n, hw, hM, (by decide), (by decide), (by omega), (by omega), f_a0_X12_1, f_a0_X12_10, f_a0_X12_8, (by have := li_0; omega), (by have := li_0; omega), (lv_sub hl [2, 3, 4, 1, 0] rfl), rfl⟩
  · simp only [fa_lt, fa_le, fa_eq, li_0] at c_13
    refine lv_aload_n hx hb dX12_numberHere_16 rfl (lv_at hl 0 rfl) ?_
    refine lv_iconst (v := 0) hx hb dX12_numberHere_17 (by decide) ?_
    refine lv_aload_n hx hb dX12_numberHere_18 rfl (lv_at hl 0 rfl) ?_
    refine t_getk (ci := 12) (C := RX12) (T := TX12) (N := 38) hx hb hts iX12 hown hw rfl 8 (by decide) (hts _ tw_1133) (fun _ h9 => h9) dX12_numberHere_19 f_a0_X12_8 ?_
    refine t_calli (va_runV (As := [.int 0, .int v1n]) (rest := []) ⟨hx, hb, hml, hown, hts⟩ (t_X12_fails l dC dI tys κ B w_2 hw.2.2.2.2 a0 k_a0 0 (by decide) (by decide) v1n (by omega) (by omega) H.size) (cwV 2 hts (gUV tw_1288 tw_1290 ts_3_7 tw_13 tw_1291) rfl rfl rfl (by decide +kernel) ⟨(Nat.le_of_ble_eq_true rfl), (Nat.le_of_ble_eq_true rfl)⟩) ⟨cPre.blind, t_recv hw (ci := 12) k_a0 rfl rfl, cPre.use hw.2.1 hw.1 hw.2.2.1 hE⟩ rfl rfl hl.1 rfl (lv_room (Nat.le_of_ble_eq_true rfl)) dX12_numberHere_22 ⟨(Nat.le_of_ble_eq_true rfl), (Nat.le_of_ble_eq_true rfl)⟩) hw hA (fun _ _ h => h.2.2.1) (fun v22 w_8 H locs hp hw => ?_)
    obtain ⟨l_v22, h_v22, _, hm⟩ := hp
    have hM := hM.trans hm (by decide) (by decide)
    have f_a0_X12_1 := hm.1 _ _ _ _ f_a0_X12_1 (by decide)
    have f_a0_X12_10 := hm.1 _ _ _ _ f_a0_X12_10 (by decide)
    have f_a0_X12_8 := hm.1 _ _ _ _ f_a0_X12_8 (by decide)
    rw [hQ]
    refine W.widen (k := 0) (n := 0) (Nat.le_refl _) (Nat.le_refl _) ?_
    exact W.zret (v := v22) hx hb hr (nb_i (by omega) (by omega)) (fun t ht hW => ⟨⟨v22, w_8, rfl, ⟨(by omega), (by omega), hw.2.2.2.2, hM, ⟨v1n, f2, (by omega), (by omega), (by omega), (by omega), f_a0_X12_8, f_a0_X12_10, (by omega)⟩⟩, by rw [ht]; exact hw.2.1, va_K.moved hW.alike hw.1, hw.2.2.1⟩, hw.2.2.2.1.F ht⟩) hw.2.2.2.1.2.2 dX12_numberHere_25
set_option maxHeartbeats 4000000 in
set_option maxRecDepth 100000 in
theorem t_X12_cellHere (l : Launch) (dC : Nat → ClassId) (dI : Nat → Nat → Nat) (tys : List (ClassId × FieldType)) (κ : tK) (B : Nat) (ws : va_W) (hT : Ty κ tys B ws) (a0 : Nat) (k_a0 : κ a0 = some 12) (a1 : Int32) (l_a1 : 1 ≤ a1.toInt) (h_a1 : a1.toInt ≤ 174) (a2 : Int32) (l_a2 : 0 ≤ a2.toInt) (h_a2 : a2.toInt ≤ 20) (a3 : Int32) (l_a3 : 9 ≤ a3.toInt) (h_a3 : a3.toInt ≤ 99) (f0 : Int32) (l_f0 : 0 ≤ f0.toInt) (h_f0 : f0.toInt ≤ 400) (f_a0_X12_8 : fld ws a0 12 8 (.int f0)) (f1 : Int32) (l_f1 : 0 ≤ f1.toInt) (h_f1 : f1.toInt ≤ 400) (f_a0_X12_1 : fld ws a0 12 1 (.int f1)) (f2 : Nat) (k_f2 : κ f2 = some 59) (f_a0_X12_7 : fld ws a0 12 7 (.ref f2)) (f3 : Int32) (l_f3 : 0 ≤ f3.toInt) (h_f3 : f3.toInt ≤ 1) (f_f2_M_read_0 : elt ws f2 (0 : Int32).toInt.toNat f3) (f4 : Int32) (l_f4 : 0 ≤ f4.toInt) (h_f4 : f4.toInt ≤ 6) (f_f2_M_read_3 : elt ws f2 (3 : Int32).toInt.toNat f4) (f5 : Int32) (l_f5 : 0 ≤ f5.toInt) (h_f5 : f5.toInt ≤ 4) (f_f2_M_read_4 : elt ws f2 (4 : Int32).toInt.toNat f5) (f6 : Int32) (l_f6 : 0 ≤ f6.toInt) (h_f6 : f6.toInt ≤ 6) (f_f2_M_read_5 : elt ws f2 (5 : Int32).toInt.toNat f6) (f7 : Int32) (f_a0_X12_10 : fld ws a0 12 10 (.int f7)) (hX : (a1.toInt ≤ 2 ∨ 52 ≤ a1.toInt)) (sz : Nat) : Met l yX12_cellHere (ws_u yX12_cellHere cX12_cellHere 4 (some .boolean)) ({ frames := 2, cells := 0, slots := 0, locals := 49 }) (va_Pc [.ref a0, .int a1, .int a2, .int a3] (cPre (dC, dI) tys ws sz)) (va_Qi (fun (r : Int32) (w : va_W) => 0 ≤ r.toInt ∧ r.toInt ≤ 1 ∧ Ty κ tys B w ∧ Sm [(12, 8), (12, 9), (12, 10)] [59] κ ws w ∧ elt w f2 (0 : Int32).toInt.toNat f3 ∧ elt w f2 (3 : Int32).toInt.toNat f4 ∧ elt w f2 (4 : Int32).toInt.toNat f5 ∧ elt w f2 (5 : Int32).toInt.toNat f6 ∧ (∃ (xn : Int32) (xm : Int32), 0 ≤ xn.toInt ∧ xn.toInt ≤ 400 ∧ (-2147483648) ≤ xm.toInt ∧ xm.toInt ≤ 2147483647 ∧ fld w a0 12 8 (.int xn) ∧ fld w a0 12 10 (.int xm) ∧ f0.toInt ≤ xn.toInt ∧ (xn.toInt = f0.toInt ∨ xn.toInt ≤ f1.toInt) ∧ (r.toInt = 0 ∨ (a2.toInt ≤ xm.toInt ∧ xm.toInt ≤ a3.toInt)))) (fun w t => cPost (dC, dI) tys w (va_A ws sz) t) (va_A ws sz)) 0 0 (va_A ws sz) := by
  refine Met.ofW (cc := cX12_cellHere) (maxL := 4) (ret := (some .boolean)) (by decide) rfl ?_
  intro p e s m args below meth c s₁ B0 hml hv
  obtain ⟨rfl, hsz, hP, hK, hD0, hE⟩ := hv
  have hx := B0.exec
  have hb := B0.bytes
  have hr := B0.returns
  have hts0 := atoms_spec (ws := ws_u yX12_cellHere cX12_cellHere 4 (some .boolean)) B0.pre
  have hts : ∀ w ∈ gT, w.before _ s = true := fun w h => hts0 w (List.mem_cons_of_mem _ h)
  have hown : s.vm.findClass RX12 = some m.cls := findClass_of_methodNamed B0.named
  have hlocks := B0.notSynchronized
  subst hsz
  have hD := hD0.self (sz := s.heap.size)
  generalize hAe : va_A ws s.heap.size = A at hD ⊢
  have hA : ∀ q : Nat, s.heap.size ≤ q → A q := fun q h => by rw [← hAe]; exact Or.inr h
  have hw : tW (dC, dI) tys κ B A s ws s.heap [] := ⟨hK, hP, hD, va_S.rf, hT⟩
  have hM : Sm [(12, 8), (12, 9), (12, 10)] [59] κ ws ws := Sm.rf
  clear hP hK hD hD0 hts0
  have l_f7 := i32_lo f7
  have h_f7 := i32_hi f7
  have hl := lv_entry ([.ref a0, .int a1, .int a2, .int a3]) (n := 4) (Nat.le_of_ble_eq_true rfl)
  rw [lg_entry_eq]
  generalize (lg_sl ([.ref a0, .int a1, .int a2, .int a3]) ++ List.replicate (4 - (lg_sl ([.ref a0, .int a1, .int a2, .int a3])).length) Slot.unset).toArray = ls at hl ⊢
  have hl : lv_has ls 4 [(0, .ref a0), (1, .int a1), (2, .int a2), (3, .int a3)] := hl
  refine t_start (fun QQ hQ => ?_)
  refine lv_aload_n hx hb dX12_cellHere_0 rfl (lv_at hl 0 rfl) ?_
  refine lv_iload_n hx hb dX12_cellHere_1 rfl (lv_at hl 2 rfl) ?_
  refine lv_iload_n hx hb dX12_cellHere_2 rfl (lv_at hl 3 rfl) ?_
  refine t_calli (va_runV (As := [.int a2, .int a3]) (rest := []) ⟨hx, hb, hml, hown, hts⟩ (t_X12_numberHere l dC dI tys κ B ws hw.2.2.2.2 a0 k_a0 a2 (by omega) (by omega) a3 (by omega) (by omega) f0 (by omega) (by omega) f_a0_X12_8 f1 (by omega) (by omega) f_a0_X12_1 f7 f_a0_X12_10 s.heap.size) (cwV 2 hts (gUV tw_1308 tw_1310 ts_3_12 tw_13 tw_1311) rfl rfl rfl (by decide +kernel) ⟨(Nat.le_of_ble_eq_true rfl), (Nat.le_of_ble_eq_true rfl)⟩) ⟨cPre.blind, t_recv hw (ci := 12) k_a0 rfl rfl, cPre.use hw.2.1 hw.1 hw.2.2.1 hE⟩ rfl rfl hl.1 rfl (lv_room (Nat.le_of_ble_eq_true rfl)) dX12_cellHere_3 ⟨(Nat.le_of_ble_eq_true rfl), (Nat.le_of_ble_eq_true rfl)⟩) hw hA (fun _ _ h => h.2.2.1) (fun v3 w_1 H locs hp hw => ?_)
  obtain ⟨l_v3, h_v3, _, hm, ⟨v3n, v3m, l_v3n, h_v3n, l_v3m, h_v3m, f_a0_X12_8, f_a0_X12_10, y_v3⟩⟩ := hp
  have hM := hM.trans hm (by decide) (by decide)
  have f_a0_X12_1 := hm.1 _ _ _ _ f_a0_X12_1 (by decide)
  have f_a0_X12_7 := hm.1 _ _ _ _ f_a0_X12_7 (by decide)
  have f_f2_M_read_0 := hm.elt k_f2 (by decide) f_f2_M_read_0
  have f_f2_M_read_3 := hm.elt k_f2 (by decide) f_f2_M_read_3
  have f_f2_M_read_4 := hm.elt k_f2 (by decide) f_f2_M_read_4
  have f_f2_M_read_5 := hm.elt k_f2 (by decide) f_f2_M_read_5
  refine lv_if_ne (tgt := 11) hx hb dX12_cellHere_6 (by decide) (fun c_6 => ?_) (fun c_6 => ?_)
  · simp only [fa_lt, fa_le, fa_eq, li_0] at c_6
    refine lv_aload_n hx hb dX12_cellHere_11 rfl (lv_at hl 0 rfl) ?_
    refine t_getk (ci := 12) (C := RX12) (T := TX12) (N := 38) hx hb hts iX12 hown hw rfl 7 (by decide) (hts _ tw_1132) (fun _ h9 => h9) dX12_cellHere_12 f_a0_X12_7 ?_
    refine lv_iload_n hx hb dX12_cellHere_15 rfl (lv_at hl 1 rfl) ?_
    refine lv_aload_n hx hb dX12_cellHere_16 rfl (lv_at hl 0 rfl) ?_
    refine t_getk (ci := 12) (C := RX12) (T := TX12) (N := 38) hx hb hts iX12 hown hw rfl 10 (by decide) (hts _ tw_1135) (fun _ h9 => h9) dX12_cellHere_17 f_a0_X12_10 ?_
    refine t_iast hx hb hw k_f2 rfl rfl (by omega) (show a1.toInt < 285 by omega) (by rw [fr_59 (by omega) (by omega)]; exact i32_lo _) (by rw [fr_59 (by omega) (by omega)]; exact i32_hi _) dX12_cellHere_20 (fun w_2 H locs hw u => ?_)
    have hM := hM.up3 u k_f2 (by decide)
    have f_a0_X12_1 := u.1 _ _ _ _ f_a0_X12_1
    have f_a0_X12_7 := u.1 _ _ _ _ f_a0_X12_7
    have f_f2_M_read_0 := u.2.2.1 _ _ _ f_f2_M_read_0 (Or.inr (by rw [show (0 : Int32).toInt.toNat = 0 by decide]; omega))
    have f_f2_M_read_3 := u.2.2.1 _ _ _ f_f2_M_read_3 (Or.inr (by rw [show (3 : Int32).toInt.toNat = 3 by decide]; omega))
    have f_f2_M_read_4 := u.2.2.1 _ _ _ f_f2_M_read_4 (Or.inr (by rw [show (4 : Int32).toInt.toNat = 4 by decide]; omega))
    have f_f2_M_read_5 := u.2.2.1 _ _ _ f_f2_M_read_5 (Or.inr (by rw [show (5 : Int32).toInt.toNat = 5 by decide]; omega))
    have f_a0_X12_8 := u.1 _ _ _ _ f_a0_X12_8
    have f_a0_X12_10 := u.1 _ _ _ _ f_a0_X12_10
    refine lv_iconst (v := 1) hx hb dX12_cellHere_21 (by decide) ?_
    rw [hQ]
    refine W.widen (k := 0) (n := 0) (Nat.le_refl _) (Nat.le_refl _) ?_
    exact W.zret (v := 1) hx hb hr rfl (fun t ht hW => ⟨⟨1, w_2, rfl, ⟨(by decide), (by decide), hw.2.2.2.2, hM, f_f2_M_read_0, f_f2_M_read_3, f_f2_M_read_4, f_f2_M_read_5, ⟨v3n, v3m, (by omega), (by omega), (by omega), (by omega), f_a0_X12_8, f_a0_X12_10, (by have := li_1; omega)⟩⟩, by rw [ht]; exact hw.2.1, va_K.moved hW.alike hw.1, hw.2.2.1⟩, hw.2.2.2.1.F ht⟩) hw.2.2.2.1.2.2 dX12_cellHere_22
  · simp only [fa_lt, fa_le, fa_eq, li_0] at c_6
    refine lv_iconst (v := 0) hx hb dX12_cellHere_9 (by decide) ?_
    rw [hQ]
    refine W.widen (k := 0) (n := 0) (Nat.le_refl _) (Nat.le_refl _) ?_
    exact W.zret (v := 0) hx hb hr rfl (fun t ht hW => ⟨⟨0, w_1, rfl, ⟨(by decide), (by decide), hw.2.2.2.2, hM, f_f2_M_read_0, f_f2_M_read_3, f_f2_M_read_4, f_f2_M_read_5, ⟨v3n, v3m, (by omega), (by omega), (by omega), (by omega), f_a0_X12_8, f_a0_X12_10, (by have := li_0; omega)⟩⟩, by rw [ht]; exact hw.2.1, va_K.moved hW.alike hw.1, hw.2.2.1⟩, hw.2.2.2.1.F ht⟩) hw.2.2.2.1.2.2 dX12_cellHere_10
set_option maxHeartbeats 4000000 in
set_option maxRecDepth 100000 in
theorem t_X12_isLetter (l : Launch) (dC : Nat → ClassId) (dI : Nat → Nat → Nat) (tys : List (ClassId × FieldType)) (κ : tK) (B : Nat) (ws : va_W) (hT : Ty κ tys B ws) (a0 : Nat) (k_a0 : κ a0 = some 12) (a1 : Int32) (l_a1 : 0 ≤ a1.toInt) (h_a1 : a1.toInt ≤ 800) (f0 : Int32) (l_f0 : 0 ≤ f0.toInt) (h_f0 : f0.toInt ≤ 400) (f_a0_X12_1 : fld ws a0 12 1 (.int f0)) (sz : Nat) : Met l yX12_isLetter (ws_u yX12_isLetter cX12_isLetter 2 (some .boolean)) ({ frames := 0, cells := 0, slots := 0, locals := 0 }) (va_Pc [.ref a0, .int a1] (cPre (dC, dI) tys ws sz)) (va_Qi (fun (r : Int32) (w : va_W) => 0 ≤ r.toInt ∧ r.toInt ≤ 1 ∧ Ty κ tys B w ∧ Sm [] [] κ ws w ∧ (r.toInt = 0 ∨ a1.toInt ≤ 399) ∧ (r.toInt = 0 ∨ a1.toInt < f0.toInt)) (fun w t => cPost (dC, dI) tys w (va_A ws sz) t) (va_A ws sz)) 0 0 (va_A ws sz) := by
  refine Met.ofW (cc := cX12_isLetter) (maxL := 2) (ret := (some .boolean)) (by decide) rfl ?_
  intro p e s m args below meth c s₁ B0 hml hv
  obtain ⟨rfl, hsz, hP, hK, hD0, hE⟩ := hv
  have hx := B0.exec
  have hb := B0.bytes
  have hr := B0.returns
  have hts0 := atoms_spec (ws := ws_u yX12_isLetter cX12_isLetter 2 (some .boolean)) B0.pre
  have hts : ∀ w ∈ gT, w.before _ s = true := fun w h => hts0 w (List.mem_cons_of_mem _ h)
  have hown : s.vm.findClass RX12 = some m.cls := findClass_of_methodNamed B0.named
  have hlocks := B0.notSynchronized
  subst hsz
  have hD := hD0.self (sz := s.heap.size)
  generalize hAe : va_A ws s.heap.size = A at hD ⊢
  have hA : ∀ q : Nat, s.heap.size ≤ q → A q := fun q h => by rw [← hAe]; exact Or.inr h
  have hw : tW (dC, dI) tys κ B A s ws s.heap [] := ⟨hK, hP, hD, va_S.rf, hT⟩
  have hM : Sm [] [] κ ws ws := Sm.rf
  clear hP hK hD hD0 hts0
  have hl := lv_entry ([.ref a0, .int a1]) (n := 2) (Nat.le_of_ble_eq_true rfl)
  rw [lg_entry_eq]
  generalize (lg_sl ([.ref a0, .int a1]) ++ List.replicate (2 - (lg_sl ([.ref a0, .int a1])).length) Slot.unset).toArray = ls at hl ⊢
  have hl : lv_has ls 2 [(0, .ref a0), (1, .int a1)] := hl
  refine t_start (fun QQ hQ => ?_)
  refine lv_iload_n hx hb dX12_isLetter_0 rfl (lv_at hl 1 rfl) ?_
  refine lv_aload_n hx hb dX12_isLetter_1 rfl (lv_at hl 0 rfl) ?_
  refine t_getk (ci := 12) (C := RX12) (T := TX12) (N := 38) hx hb hts iX12 hown hw rfl 1 (by decide) (hts _ tw_1126) (fun _ h9 => h9) dX12_isLetter_2 f_a0_X12_1 ?_
  refine lv_icmp_ge (tgt := 34) hx hb dX12_isLetter_5 (by decide) (fun c_5 => ?_) (fun c_5 => ?_)
  · simp only [fa_lt, fa_le, fa_eq] at c_5
    refine lv_iconst (v := 0) hx hb dX12_isLetter_34 (by decide) ?_
    rw [hQ]
    refine W.widen (k := 0) (n := 0) (Nat.le_refl _) (Nat.le_refl _) ?_
    exact W.zret (v := 0) hx hb hr rfl (fun t ht hW => ⟨⟨0, ws, rfl, ⟨(by decide), (by decide), hw.2.2.2.2, hM, (by have := li_0; omega), (by have := li_0; omega)⟩, by rw [ht]; exact hw.2.1, va_K.moved hW.alike hw.1, hw.2.2.1⟩, hw.2.2.2.1.F ht⟩) hw.2.2.2.1.2.2 dX12_isLetter_35
  · simp only [fa_lt, fa_le, fa_eq] at c_5
    refine lv_aload_n hx hb dX12_isLetter_8 rfl (lv_at hl 0 rfl) ?_
    refine t_getr (k1 := 54) (ci := 12) (C := RX12) (T := TX12) (N := 38) hx hb hts iX12 hown hw k_a0 rfl rfl rfl 0 (by decide) (hts _ tw_1125) (fun _ h9 => h9) dX12_isLetter_9 rfl (fun v9 k_v9 f_a0_X12_0 => ?_)
    refine lv_iload_n hx hb dX12_isLetter_12 rfl (lv_at hl 1 rfl) ?_
    refine t_bald hx hb hw k_v9 rfl rfl (by omega) (show a1.toInt < 400 by omega) dX12_isLetter_13 (fun v13 r_v13 s_v13 q_v13 => ?_)
    have l_v13 := i32_lo v13
    have h_v13 := i32_hi v13
    refine lv_bipush (v := 97) hx hb dX12_isLetter_14 (by decide) ?_
    refine lv_icmp_lt (tgt := 34) hx hb dX12_isLetter_16 (by decide) (fun c_16 => ?_) (fun c_16 => ?_)
    · simp only [fa_lt, fa_le, fa_eq, li_97] at c_16
      refine lv_iconst (v := 0) hx hb dX12_isLetter_34 (by decide) ?_
      rw [hQ]
      refine W.widen (k := 0) (n := 0) (Nat.le_refl _) (Nat.le_refl _) ?_
      exact W.zret (v := 0) hx hb hr rfl (fun t ht hW => ⟨⟨0, ws, rfl, ⟨(by decide), (by decide), hw.2.2.2.2, hM, (by have := li_0; omega), (by have := li_0; omega)⟩, by rw [ht]; exact hw.2.1, va_K.moved hW.alike hw.1, hw.2.2.1⟩, hw.2.2.2.1.F ht⟩) hw.2.2.2.1.2.2 dX12_isLetter_35
    · simp only [fa_lt, fa_le, fa_eq, li_97] at c_16
      refine lv_aload_n hx hb dX12_isLetter_19 rfl (lv_at hl 0 rfl) ?_
      refine t_getk (ci := 12) (C := RX12) (T := TX12) (N := 38) hx hb hts iX12 hown hw rfl 0 (by decide) (hts _ tw_1125) (fun _ h9 => h9) dX12_isLetter_20 f_a0_X12_0 ?_
      refine lv_iload_n hx hb dX12_isLetter_23 rfl (lv_at hl 1 rfl) ?_
      refine t_bald hx hb hw k_v9 rfl rfl (by omega) (show a1.toInt < 400 by omega) dX12_isLetter_24 (fun v24 r_v24 s_v24 q_v24 => ?_)
      have l_v24 := i32_lo v24
      have h_v24 := i32_hi v24
      refine lv_bipush (v := 122) hx hb dX12_isLetter_25 (by decide) ?_
      refine lv_icmp_gt (tgt := 34) hx hb dX12_isLetter_27 (by decide) (fun c_27 => ?_) (fun c_27 => ?_)
      · simp only [fa_lt, fa_le, fa_eq, li_122] at c_27
        refine lv_iconst (v := 0) hx hb dX12_isLetter_34 (by decide) ?_
        rw [hQ]
        refine W.widen (k := 0) (n := 0) (Nat.le_refl _) (Nat.le_refl _) ?_
        exact W.zret (v := 0) hx hb hr rfl (fun t ht hW => ⟨⟨0, ws, rfl, ⟨(by decide), (by decide), hw.2.2.2.2, hM, (by have := li_0; omega), (by have := li_0; omega)⟩, by rw [ht]; exact hw.2.1, va_K.moved hW.alike hw.1, hw.2.2.1⟩, hw.2.2.2.1.F ht⟩) hw.2.2.2.1.2.2 dX12_isLetter_35
      · simp only [fa_lt, fa_le, fa_eq, li_122] at c_27
        refine lv_iconst (v := 1) hx hb dX12_isLetter_30 (by decide) ?_
        refine lv_goto (tgt := 35) hx hb dX12_isLetter_31 (by decide) ?_
        rw [hQ]
        refine W.widen (k := 0) (n := 0) (Nat.le_refl _) (Nat.le_refl _) ?_
        exact W.zret (v := 1) hx hb hr rfl (fun t ht hW => ⟨⟨1, ws, rfl, ⟨(by decide), (by decide), hw.2.2.2.2, hM, (by have := li_1; omega), (by have := li_1; omega)⟩, by rw [ht]; exact hw.2.1, va_K.moved hW.alike hw.1, hw.2.2.1⟩, hw.2.2.2.1.F ht⟩) hw.2.2.2.1.2.2 dX12_isLetter_35
set_option maxHeartbeats 4000000 in
set_option maxRecDepth 100000 in
theorem t_X12_passWord (l : Launch) (dC : Nat → ClassId) (dI : Nat → Nat → Nat) (tys : List (ClassId × FieldType)) (κ : tK) (B : Nat) (ws : va_W) (hT : Ty κ tys B ws) (a0 : Nat) (k_a0 : κ a0 = some 12) (f0 : Int32) (l_f0 : 0 ≤ f0.toInt) (h_f0 : f0.toInt ≤ 400) (f_a0_X12_8 : fld ws a0 12 8 (.int f0)) (f1 : Int32) (l_f1 : 0 ≤ f1.toInt) (h_f1 : f1.toInt ≤ 400) (f_a0_X12_1 : fld ws a0 12 1 (.int f1)) (sz : Nat) : Met l yX12_passWord (ws_u yX12_passWord cX12_passWord 1 none) ({ frames := 1, cells := 0, slots := 0, locals := 21 }) (va_Pc [.ref a0] (cPre (dC, dI) tys ws sz)) (va_Qv (fun (w : va_W) => Ty κ tys B w ∧ Sm [(12, 8)] [] κ ws w ∧ (∃ (xn : Int32), 0 ≤ xn.toInt ∧ xn.toInt ≤ 400 ∧ fld w a0 12 8 (.int xn) ∧ f0.toInt ≤ xn.toInt ∧ (xn.toInt = f0.toInt ∨ xn.toInt ≤ f1.toInt))) (fun w t => cPost (dC, dI) tys w (va_A ws sz) t) (va_A ws sz)) 0 0 (va_A ws sz) := by
  refine Met.ofW (cc := cX12_passWord) (maxL := 1) (ret := none) (by decide) rfl ?_
  intro p e s m args below meth c s₁ B0 hml hv
  obtain ⟨rfl, hsz, hP, hK, hD0, hE⟩ := hv
  have hx := B0.exec
  have hb := B0.bytes
  have hr := B0.returns
  have hts0 := atoms_spec (ws := ws_u yX12_passWord cX12_passWord 1 none) B0.pre
  have hts : ∀ w ∈ gT, w.before _ s = true := fun w h => hts0 w (List.mem_cons_of_mem _ h)
  have hown : s.vm.findClass RX12 = some m.cls := findClass_of_methodNamed B0.named
  have hlocks := B0.notSynchronized
  subst hsz
  have hD := hD0.self (sz := s.heap.size)
  generalize hAe : va_A ws s.heap.size = A at hD ⊢
  have hA : ∀ q : Nat, s.heap.size ≤ q → A q := fun q h => by rw [← hAe]; exact Or.inr h
  have hw : tW (dC, dI) tys κ B A s ws s.heap [] := ⟨hK, hP, hD, va_S.rf, hT⟩
  have hM : Sm [(12, 8)] [] κ ws ws := Sm.rf
  clear hP hK hD hD0 hts0
  have hl := lv_entry ([.ref a0]) (n := 1) (Nat.le_of_ble_eq_true rfl)
  rw [lg_entry_eq]
  generalize (lg_sl ([.ref a0]) ++ List.replicate (1 - (lg_sl ([.ref a0])).length) Slot.unset).toArray = ls at hl ⊢
  have hl : lv_has ls 1 [(0, .ref a0)] := hl
  refine t_start (fun QQ hQ => ?_)
  have J0 : ∀ (n : Nat) (H : Heap) (locs : List Loc) (ls : Array Slot), (∃ (w0 : va_W) (p0_m_a0_X12_8 : Int32), tW (dC, dI) tys κ B A s w0 H locs ∧ Sm [(12, 8)] [] κ ws w0 ∧ 0 ≤ p0_m_a0_X12_8.toInt ∧ p0_m_a0_X12_8.toInt ≤ 400 ∧ fld w0 a0 12 1 (.int f1) ∧ fld w0 a0 12 8 (.int p0_m_a0_X12_8) ∧ f0.toInt ≤ p0_m_a0_X12_8.toInt ∧ (p0_m_a0_X12_8.toInt = f0.toInt ∨ p0_m_a0_X12_8.toInt ≤ f1.toInt) ∧ lv_has ls 1 [(0, .ref a0)] ∧ (400 - p0_m_a0_X12_8.toInt).toNat = n) → W p l e (headSpec (ws_u yX12_passWord cX12_passWord 1 none) ({ frames := 1, cells := 0, slots := 0, locals := 21 })).room s m ([.ref a0] : List Value).toArray below meth c H locs 0 0 QQ (F0 m 0 ls []) := by
    refine loopT _ ?_
    intro n_0 H locs ls hI ih_0
    obtain ⟨w0, p0_m_a0_X12_8, hw, hM, l_p0_m_a0_X12_8, h_p0_m_a0_X12_8, f_a0_X12_1, f_a0_X12_8, li_0_0, li_0_1, hl, hn_0⟩ := hI
    refine lv_aload_n hx hb dX12_passWord_0 rfl (lv_at hl 0 rfl) ?_
    refine lv_aload_n hx hb dX12_passWord_1 rfl (lv_at hl 0 rfl) ?_
    refine t_getk (ci := 12) (C := RX12) (T := TX12) (N := 38) hx hb hts iX12 hown hw rfl 8 (by decide) (hts _ tw_1133) (fun _ h9 => h9) dX12_passWord_2 f_a0_X12_8 ?_
    refine t_calli (va_runV (As := [.int p0_m_a0_X12_8]) (rest := []) ⟨hx, hb, hml, hown, hts⟩ (t_X12_isLetter l dC dI tys κ B w0 hw.2.2.2.2 a0 k_a0 p0_m_a0_X12_8 (by omega) (by omega) f1 (by omega) (by omega) f_a0_X12_1 H.size) (cwV 1 hts (gUV tw_1277 tw_1279 ts_3_6 tw_13 tw_1280) rfl rfl rfl (by decide +kernel) ⟨(Nat.le_of_ble_eq_true rfl), (Nat.le_of_ble_eq_true rfl)⟩) ⟨cPre.blind, t_recv hw (ci := 12) k_a0 rfl rfl, cPre.use hw.2.1 hw.1 hw.2.2.1 hE⟩ rfl rfl hl.1 rfl (lv_room (Nat.le_of_ble_eq_true rfl)) dX12_passWord_5 ⟨(Nat.le_of_ble_eq_true rfl), (Nat.le_of_ble_eq_true rfl)⟩) hw hA (fun _ _ h => h.2.2.1) (fun v5 w_1 H locs hp hw => ?_)
    obtain ⟨l_v5, h_v5, _, hm, x_v5_0, x_v5_1⟩ := hp
    have hM := hM.trans hm (by decide) (by decide)
    have f_a0_X12_1 := hm.1 _ _ _ _ f_a0_X12_1 (by decide)
    have f_a0_X12_8 := hm.1 _ _ _ _ f_a0_X12_8 (by decide)
    refine lv_if_eq (tgt := 24) hx hb dX12_passWord_8 (by decide) (fun c_8 => ?_) (fun c_8 => ?_)
    · simp only [fa_lt, fa_le, fa_eq, li_0] at c_8
      rw [hQ]
      refine W.widen (k := 0) (n := 0) (Nat.le_refl _) (Nat.le_refl _) ?_
      exact W.vret hx hb hr (fun t ht hW => ⟨⟨w_1, rfl, ⟨hw.2.2.2.2, hM, ⟨p0_m_a0_X12_8, (by omega), (by omega), f_a0_X12_8, (by omega)⟩⟩, by rw [ht]; exact hw.2.1, va_K.moved hW.alike hw.1, hw.2.2.1⟩, hw.2.2.2.1.F ht⟩) hw.2.2.2.1.2.2 dX12_passWord_24
    · simp only [fa_lt, fa_le, fa_eq, li_0] at c_8
      refine lv_aload_n hx hb dX12_passWord_11 rfl (lv_at hl 0 rfl) ?_
      refine lv_dup hx hb dX12_passWord_12 rfl ?_
      refine t_getk (ci := 12) (C := RX12) (T := TX12) (N := 38) hx hb hts iX12 hown hw rfl 8 (by decide) (hts _ tw_1133) (fun _ h9 => h9) dX12_passWord_13 f_a0_X12_8 ?_
      refine lv_iconst (v := 1) hx hb dX12_passWord_16 (by decide) ?_
      refine lv_iadd hx hb dX12_passWord_17 ?_
      refine lv_topi (fun v17 e_v17 => ?_)
      have e_v17 : v17.toInt = p0_m_a0_X12_8.toInt + 1 := ad_i e_v17 rfl li_1 (by omega) (by omega)
      refine t_put (ci := 12) (C := RX12) (T := TX12) (N := 38) (v := .int v17) hx hb hts iX12 tyX12 tyX12_ok nmX12 hown hw k_a0 rfl rfl rfl 8 (by decide) (hts _ tw_1133) (fun _ h9 => h9) rfl (tyX12_ok 8 (by decide)) rfl rfl (okV.int rfl (by omega) (by omega)) dX12_passWord_18 (fun w_2 H locs hw u => ?_)
      have hM := hM.up1 u (by decide)
      have f_a0_X12_1 := u.1 _ _ _ _ f_a0_X12_1 (Or.inr (Or.inr (by decide)))
      have f_a0_X12_8 := u.2.2
      refine lv_goto (tgt := 0) hx hb dX12_passWord_21 (by decide) ?_
      exact ih_0 _ _ _ _ (by omega) ⟨w_2, v17, hw, hM, (by omega), (by omega), f_a0_X12_1, f_a0_X12_8, (by omega), (by omega), (lv_sub hl [0] rfl), rfl⟩
  exact J0 _ _ _ _ ⟨ws, f0, hw, hM, (by omega), (by omega), f_a0_X12_1, f_a0_X12_8, (by omega), (by omega), (lv_sub hl [0] rfl), rfl⟩
set_option maxHeartbeats 4000000 in
set_option maxRecDepth 100000 in
theorem t_X12_areLikesHere (l : Launch) (dC : Nat → ClassId) (dI : Nat → Nat → Nat) (tys : List (ClassId × FieldType)) (κ : tK) (B : Nat) (ws : va_W) (hT : Ty κ tys B ws) (a0 : Nat) (k_a0 : κ a0 = some 12) (sz : Nat) : Met l yX12_areLikesHere (ws_u yX12_areLikesHere cX12_areLikesHere 2 (some .boolean)) ({ frames := 3, cells := 0, slots := 0, locals := 72 }) (va_Pc [.ref a0] (cPre (dC, dI) tys ws sz)) (va_Qi (fun (r : Int32) (w : va_W) => 0 ≤ r.toInt ∧ r.toInt ≤ 1 ∧ Ty κ tys B w ∧ Sm [(12, 8), (12, 9), (12, 10)] [59] κ ws w) (fun w t => cPost (dC, dI) tys w (va_A ws sz) t) (va_A ws sz)) 0 0 (va_A ws sz) := by
  refine Met.ofW (cc := cX12_areLikesHere) (maxL := 2) (ret := (some .boolean)) (by decide) rfl ?_
  intro p e s m args below meth c s₁ B0 hml hv
  obtain ⟨rfl, hsz, hP, hK, hD0, hE⟩ := hv
  have hx := B0.exec
  have hb := B0.bytes
  have hr := B0.returns
  have hts0 := atoms_spec (ws := ws_u yX12_areLikesHere cX12_areLikesHere 2 (some .boolean)) B0.pre
  have hts : ∀ w ∈ gT, w.before _ s = true := fun w h => hts0 w (List.mem_cons_of_mem _ h)
  have hown : s.vm.findClass RX12 = some m.cls := findClass_of_methodNamed B0.named
  have hlocks := B0.notSynchronized
  subst hsz
  have hD := hD0.self (sz := s.heap.size)
  generalize hAe : va_A ws s.heap.size = A at hD ⊢
  have hA : ∀ q : Nat, s.heap.size ≤ q → A q := fun q h => by rw [← hAe]; exact Or.inr h
  have hw : tW (dC, dI) tys κ B A s ws s.heap [] := ⟨hK, hP, hD, va_S.rf, hT⟩
  have hM : Sm [(12, 8), (12, 9), (12, 10)] [59] κ ws ws := Sm.rf
  clear hP hK hD hD0 hts0
  have hl := lv_entry ([.ref a0]) (n := 2) (Nat.le_of_ble_eq_true rfl)
  rw [lg_entry_eq]
  generalize (lg_sl ([.ref a0]) ++ List.replicate (2 - (lg_sl ([.ref a0])).length) Slot.unset).toArray = ls at hl ⊢
  have hl : lv_has ls 2 [(0, .ref a0)] := hl
  refine t_start (fun QQ hQ => ?_)
  refine lv_aload_n hx hb dX12_areLikesHere_0 rfl (lv_at hl 0 rfl) ?_
  obtain ⟨u_v1q0, q_v1q0, f_a0_X12_8⟩ := t_peek (k := 8) hw.2.2.2.2 k_a0 rfl (by decide)
  obtain ⟨v1q0, rfl, l_v1q0, h_v1q0⟩ := q_v1q0.geti (lo := 0) (hi := 400) rfl
  obtain ⟨u_v1q1, q_v1q1, f_a0_X12_1⟩ := t_peek (k := 1) hw.2.2.2.2 k_a0 rfl (by decide)
  obtain ⟨v1q1, rfl, l_v1q1, h_v1q1⟩ := q_v1q1.geti (lo := 0) (hi := 400) rfl
  refine t_callv (va_runV (As := []) (rest := []) ⟨hx, hb, hml, hown, hts⟩ (t_X12_passWord l dC dI tys κ B ws hw.2.2.2.2 a0 k_a0 v1q0 (by omega) (by omega) f_a0_X12_8 v1q1 (by omega) (by omega) f_a0_X12_1 s.heap.size) (cwV 0 hts (gUV tw_1300 tw_1302 ts_3_10 tw_13 tw_1303) rfl rfl rfl (by decide +kernel) ⟨(Nat.le_of_ble_eq_true rfl), (Nat.le_of_ble_eq_true rfl)⟩) ⟨cPre.blind, t_recv hw (ci := 12) k_a0 rfl rfl, cPre.use hw.2.1 hw.1 hw.2.2.1 hE⟩ rfl rfl hl.1 rfl (lv_room (Nat.le_of_ble_eq_true rfl)) dX12_areLikesHere_1 ⟨(Nat.le_of_ble_eq_true rfl), (Nat.le_of_ble_eq_true rfl)⟩) hw hA (fun _ h => h.1) (fun w_1 H locs hp hw => ?_)
  obtain ⟨_, hm, ⟨v1n, l_v1n, h_v1n, f_a0_X12_8, y_v1⟩⟩ := hp
  have hM := hM.trans hm (by decide) (by decide)
  have f_a0_X12_1 := hm.1 _ _ _ _ f_a0_X12_1 (by decide)
  refine lv_aload_n hx hb dX12_areLikesHere_4 rfl (lv_at hl 0 rfl) ?_
  refine lv_iconst (v := 0) hx hb dX12_areLikesHere_5 (by decide) ?_
  refine lv_aload_n hx hb dX12_areLikesHere_6 rfl (lv_at hl 0 rfl) ?_
  refine t_getr (k1 := 59) (ci := 12) (C := RX12) (T := TX12) (N := 38) hx hb hts iX12 hown hw k_a0 rfl rfl rfl 7 (by decide) (hts _ tw_1132) (fun _ h9 => h9) dX12_areLikesHere_7 rfl (fun v7 k_v7 f_a0_X12_7 => ?_)
  refine lv_iconst (v := 3) hx hb dX12_areLikesHere_10 (by decide) ?_
  refine t_iald hx hb hw k_v7 rfl rfl (by decide) (by decide) dX12_areLikesHere_11 (fun v11 r_v11 s_v11 f_v7_M_read_3 => ?_)
  have l_v11 : 0 ≤ v11.toInt := by rw [iv_59_3] at r_v11; exact r_v11
  have h_v11 : v11.toInt ≤ 6 := by rw [iv_59_3] at s_v11; exact s_v11
  refine lv_iconst (v := 1) hx hb dX12_areLikesHere_12 (by decide) ?_
  refine lv_isub hx hb dX12_areLikesHere_13 ?_
  refine lv_topi (fun v13 e_v13 => ?_)
  have e_v13 : v13.toInt = v11.toInt - 1 := sb_i e_v13 rfl li_1 (by omega) (by omega)
  obtain ⟨u_v14q2, q_v14q2, f_a0_X12_10⟩ := t_peek (k := 10) hw.2.2.2.2 k_a0 rfl (by decide)
  obtain ⟨v14q2, rfl, l_v14q2, h_v14q2⟩ := q_v14q2.geti (lo := (-2147483648)) (hi := 2147483647) rfl
  refine t_calli (va_runV (As := [.int 0, .int v13]) (rest := []) ⟨hx, hb, hml, hown, hts⟩ (t_X12_numberHere l dC dI tys κ B w_1 hw.2.2.2.2 a0 k_a0 0 (by decide) (by decide) v13 (by omega) (by omega) v1n (by omega) (by omega) f_a0_X12_8 v1q1 (by omega) (by omega) f_a0_X12_1 v14q2 f_a0_X12_10 H.size) (cwV 2 hts (gUV tw_1308 tw_1310 ts_3_12 tw_13 tw_1311) rfl rfl rfl (by decide +kernel) ⟨(Nat.le_of_ble_eq_true rfl), (Nat.le_of_ble_eq_true rfl)⟩) ⟨cPre.blind, t_recv hw (ci := 12) k_a0 rfl rfl, cPre.use hw.2.1 hw.1 hw.2.2.1 hE⟩ rfl rfl hl.1 rfl (lv_room (Nat.le_of_ble_eq_true rfl)) dX12_areLikesHere_14 ⟨(Nat.le_of_ble_eq_true rfl), (Nat.le_of_ble_eq_true rfl)⟩) hw hA (fun _ _ h => h.2.2.1) (fun v14 w_2 H locs hp hw => ?_)
  obtain ⟨l_v14, h_v14, _, hm, ⟨v14n, v14m, l_v14n, h_v14n, l_v14m, h_v14m, f_a0_X12_8, f_a0_X12_10, y_v14⟩⟩ := hp
  have zc_0 := li_0
  have hM := hM.trans hm (by decide) (by decide)
  have f_a0_X12_1 := hm.1 _ _ _ _ f_a0_X12_1 (by decide)
  have f_a0_X12_7 := hm.1 _ _ _ _ f_a0_X12_7 (by decide)
  have f_v7_M_read_3 := hm.elt k_v7 (by decide) f_v7_M_read_3
  refine lv_if_ne (tgt := 22) hx hb dX12_areLikesHere_17 (by decide) (fun c_17 => ?_) (fun c_17 => ?_)
  · simp only [fa_lt, fa_le, fa_eq, li_0] at c_17
    refine lv_bipush (v := 6) hx hb dX12_areLikesHere_22 (by decide) ?_
    refine lv_aload_n hx hb dX12_areLikesHere_24 rfl (lv_at hl 0 rfl) ?_
    refine t_getk (ci := 12) (C := RX12) (T := TX12) (N := 38) hx hb hts iX12 hown hw rfl 10 (by decide) (hts _ tw_1135) (fun _ h9 => h9) dX12_areLikesHere_25 f_a0_X12_10 ?_
    refine lv_imul hx hb dX12_areLikesHere_28 ?_
    refine lv_topi (fun v28 e_v28 => ?_)
    have e_v28 : v28.toInt = 6 * v14m.toInt := ml_i e_v28 li_6 rfl (by omega) (by omega)
    refine lv_istore_n (lv' := [(1, .int v28), (0, .ref a0)]) hx hb dX12_areLikesHere_29 rfl hl (by decide) rfl (fun ls hl => ?_)
    refine lv_aload_n hx hb dX12_areLikesHere_30 rfl (lv_at hl 1 rfl) ?_
    refine lv_iconst (v := 0) hx hb dX12_areLikesHere_31 (by decide) ?_
    refine lv_aload_n hx hb dX12_areLikesHere_32 rfl (lv_at hl 1 rfl) ?_
    refine t_getk (ci := 12) (C := RX12) (T := TX12) (N := 38) hx hb hts iX12 hown hw rfl 7 (by decide) (hts _ tw_1132) (fun _ h9 => h9) dX12_areLikesHere_33 f_a0_X12_7 ?_
    refine lv_iconst (v := 3) hx hb dX12_areLikesHere_36 (by decide) ?_
    refine t_ialdk hx hb hw k_v7 rfl rfl (by decide) (by decide) f_v7_M_read_3 dX12_areLikesHere_37 ?_
    refine lv_iconst (v := 1) hx hb dX12_areLikesHere_38 (by decide) ?_
    refine lv_isub hx hb dX12_areLikesHere_39 ?_
    refine lv_topi (fun v39 e_v39 => ?_)
    have e_v39 : v39.toInt = v11.toInt - 1 := sb_i e_v39 rfl li_1 (by omega) (by omega)
    refine t_calli (va_runV (As := [.int 0, .int v39]) (rest := []) ⟨hx, hb, hml, hown, hts⟩ (t_X12_numberHere l dC dI tys κ B w_2 hw.2.2.2.2 a0 k_a0 0 (by decide) (by decide) v39 (by omega) (by omega) v14n (by omega) (by omega) f_a0_X12_8 v1q1 (by omega) (by omega) f_a0_X12_1 v14m f_a0_X12_10 H.size) (cwV 2 hts (gUV tw_1308 tw_1310 ts_3_12 tw_13 tw_1311) rfl rfl rfl (by decide +kernel) ⟨(Nat.le_of_ble_eq_true rfl), (Nat.le_of_ble_eq_true rfl)⟩) ⟨cPre.blind, t_recv hw (ci := 12) k_a0 rfl rfl, cPre.use hw.2.1 hw.1 hw.2.2.1 hE⟩ rfl rfl hl.1 rfl (lv_room (Nat.le_of_ble_eq_true rfl)) dX12_areLikesHere_40 ⟨(Nat.le_of_ble_eq_true rfl), (Nat.le_of_ble_eq_true rfl)⟩) hw hA (fun _ _ h => h.2.2.1) (fun v40 w_3 H locs hp hw => ?_)
    obtain ⟨l_v40, h_v40, _, hm, ⟨v40n, v40m, l_v40n, h_v40n, l_v40m, h_v40m, f_a0_X12_8, f_a0_X12_10, y_v40⟩⟩ := hp
    have zc_0 := li_0
    have hM := hM.trans hm (by decide) (by decide)
    have f_a0_X12_1 := hm.1 _ _ _ _ f_a0_X12_1 (by decide)
    have f_a0_X12_7 := hm.1 _ _ _ _ f_a0_X12_7 (by decide)
    have f_v7_M_read_3 := hm.elt k_v7 (by decide) f_v7_M_read_3
    refine lv_if_ne (tgt := 48) hx hb dX12_areLikesHere_43 (by decide) (fun c_43 => ?_) (fun c_43 => ?_)
    · simp only [fa_lt, fa_le, fa_eq, li_0] at c_43
      refine lv_aload_n hx hb dX12_areLikesHere_48 rfl (lv_at hl 1 rfl) ?_
      refine lv_bipush (v := 70) hx hb dX12_areLikesHere_49 (by decide) ?_
      refine lv_iload_n hx hb dX12_areLikesHere_51 rfl (lv_at hl 0 rfl) ?_
      refine lv_iadd hx hb dX12_areLikesHere_52 ?_
      refine lv_topi (fun v52 e_v52 => ?_)
      have e_v52 : v52.toInt = 70 + v28.toInt := ad_i e_v52 li_70 rfl (by omega) (by omega)
      refine lv_aload_n hx hb dX12_areLikesHere_53 rfl (lv_at hl 1 rfl) ?_
      refine t_getk (ci := 12) (C := RX12) (T := TX12) (N := 38) hx hb hts iX12 hown hw rfl 10 (by decide) (hts _ tw_1135) (fun _ h9 => h9) dX12_areLikesHere_54 f_a0_X12_10 ?_
      refine lv_iadd hx hb dX12_areLikesHere_57 ?_
      refine lv_topi (fun v57 e_v57 => ?_)
      have e_v57 : v57.toInt = v52.toInt + v40m.toInt := ad_i e_v57 rfl rfl (by omega) (by omega)
      refine lv_iconst (v := 0) hx hb dX12_areLikesHere_58 (by decide) ?_
      refine lv_bipush (v := 20) hx hb dX12_areLikesHere_59 (by decide) ?_
      obtain ⟨v61q3, r_v61q3, s_v61q3, f_v7_M_read_0⟩ := t_peeke (i := (0 : Int32)) hw.2.2.2.2 k_v7 rfl (by decide)
      have l_v61q3 : 0 ≤ v61q3.toInt := by rw [iv_59_0] at r_v61q3; exact r_v61q3
      have h_v61q3 : v61q3.toInt ≤ 1 := by rw [iv_59_0] at s_v61q3; exact s_v61q3
      obtain ⟨v61q5, r_v61q5, s_v61q5, f_v7_M_read_4⟩ := t_peeke (i := (4 : Int32)) hw.2.2.2.2 k_v7 rfl (by decide)
      have l_v61q5 : 0 ≤ v61q5.toInt := by rw [iv_59_4] at r_v61q5; exact r_v61q5
      have h_v61q5 : v61q5.toInt ≤ 4 := by rw [iv_59_4] at s_v61q5; exact s_v61q5
      obtain ⟨v61q6, r_v61q6, s_v61q6, f_v7_M_read_5⟩ := t_peeke (i := (5 : Int32)) hw.2.2.2.2 k_v7 rfl (by decide)
      have l_v61q6 : 0 ≤ v61q6.toInt := by rw [iv_59_5] at r_v61q6; exact r_v61q6
      have h_v61q6 : v61q6.toInt ≤ 6 := by rw [iv_59_5] at s_v61q6; exact s_v61q6
      refine t_calli (va_runV (As := [.int v57, .int 0, .int 20]) (rest := []) ⟨hx, hb, hml, hown, hts⟩ (t_X12_cellHere l dC dI tys κ B w_3 hw.2.2.2.2 a0 k_a0 v57 (by omega) (by omega) 0 (by decide) (by decide) 20 (by decide) (by decide) v40n (by omega) (by omega) f_a0_X12_8 v1q1 (by omega) (by omega) f_a0_X12_1 v7 k_v7 f_a0_X12_7 v61q3 (by omega) (by omega) f_v7_M_read_0 v11 (by omega) (by omega) f_v7_M_read_3 v61q5 (by omega) (by omega) f_v7_M_read_4 v61q6 (by omega) (by omega) f_v7_M_read_5 v40m f_a0_X12_10 (by have := li_0; have := li_20; omega) H.size) (cwV 3 hts (gUV tw_1304 tw_1306 ts_3_11 tw_13 tw_1307) rfl rfl rfl (by decide +kernel) ⟨(Nat.le_of_ble_eq_true rfl), (Nat.le_of_ble_eq_true rfl)⟩) ⟨cPre.blind, t_recv hw (ci := 12) k_a0 rfl rfl, cPre.use hw.2.1 hw.1 hw.2.2.1 hE⟩ rfl rfl hl.1 rfl (lv_room (Nat.le_of_ble_eq_true rfl)) dX12_areLikesHere_61 ⟨(Nat.le_of_ble_eq_true rfl), (Nat.le_of_ble_eq_true rfl)⟩) hw hA (fun _ _ h => h.2.2.1) (fun v61 w_4 H locs hp hw => ?_)
      obtain ⟨l_v61, h_v61, _, hm, f_v7_M_read_0, f_v7_M_read_3, f_v7_M_read_4, f_v7_M_read_5, ⟨v61n, v61m, l_v61n, h_v61n, l_v61m, h_v61m, f_a0_X12_8, f_a0_X12_10, y_v61⟩⟩ := hp
      have zc_0 := li_0
      have zc_20 := li_20
      have hM := hM.trans hm (by decide) (by decide)
      have f_a0_X12_1 := hm.1 _ _ _ _ f_a0_X12_1 (by decide)
      have f_a0_X12_7 := hm.1 _ _ _ _ f_a0_X12_7 (by decide)
      rw [hQ]
      refine W.widen (k := 0) (n := 0) (Nat.le_refl _) (Nat.le_refl _) ?_
      exact W.zret (v := v61) hx hb hr (nb_i (by omega) (by omega)) (fun t ht hW => ⟨⟨v61, w_4, rfl, ⟨(by omega), (by omega), hw.2.2.2.2, hM⟩, by rw [ht]; exact hw.2.1, va_K.moved hW.alike hw.1, hw.2.2.1⟩, hw.2.2.2.1.F ht⟩) hw.2.2.2.1.2.2 dX12_areLikesHere_64
    · simp only [fa_lt, fa_le, fa_eq, li_0] at c_43
      refine lv_iconst (v := 0) hx hb dX12_areLikesHere_46 (by decide) ?_
      rw [hQ]
      refine W.widen (k := 0) (n := 0) (Nat.le_refl _) (Nat.le_refl _) ?_
      exact W.zret (v := 0) hx hb hr rfl (fun t ht hW => ⟨⟨0, w_3, rfl, ⟨(by decide), (by decide), hw.2.2.2.2, hM⟩, by rw [ht]; exact hw.2.1, va_K.moved hW.alike hw.1, hw.2.2.1⟩, hw.2.2.2.1.F ht⟩) hw.2.2.2.1.2.2 dX12_areLikesHere_47
  · simp only [fa_lt, fa_le, fa_eq, li_0] at c_17
    refine lv_iconst (v := 0) hx hb dX12_areLikesHere_20 (by decide) ?_
    rw [hQ]
    refine W.widen (k := 0) (n := 0) (Nat.le_refl _) (Nat.le_refl _) ?_
    exact W.zret (v := 0) hx hb hr rfl (fun t ht hW => ⟨⟨0, w_2, rfl, ⟨(by decide), (by decide), hw.2.2.2.2, hM⟩, by rw [ht]; exact hw.2.1, va_K.moved hW.alike hw.1, hw.2.2.1⟩, hw.2.2.2.1.F ht⟩) hw.2.2.2.1.2.2 dX12_areLikesHere_21
